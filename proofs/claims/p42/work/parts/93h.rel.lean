/-! ===== worth: what both say ===== -/
def vnM (m : MF) (i v : Nat) : Nat := (m.2.2.2.2.2 (6 * i + v)).toInt.toNat
def snM (m : MF) (q : Nat) : Nat := (m.2.1 q).toInt.toNat
def oakB (m : MF) (x : Int64) : Bool := if m.1 4 = -1 then false else bt x (m.1 4).toInt.toNat
def wV (m : MF) (n i : Nat) (x : Int64) : Nat := wS (vnM m i) (snM m) x n + bon (oakB m x) (m.2.2.2.2.1 i)
theorem nt_of {z : Int32} {b : Nat} (hb : b < 1000) (h : ∃ n, n < b ∧ z = Int32.ofNat n) : z.toInt.toNat < b ∧ z = Int32.ofNat z.toInt.toNat := by
  obtain ⟨n, hn, rfl⟩ := h
  rw [ofN_toInt (by omega)]
  exact ⟨hn, rfl⟩
theorem oak_of {n : Nat} {J : Int32} (hn : n ≤ 64) (x : Int64) (h : okPl n (2 : Nat) J.toInt) : (J = -1 ∧ (if J = -1 then false else bt x J.toInt.toNat) = false) ∨ ∃ K, K < 64 ∧ J = Int32.ofNat K ∧ (if J = -1 then false else bt x J.toInt.toNat) = bt x K := by
  have e1 : (-1 : Int32).toInt = -1 := rfl
  by_cases z : J = -1
  · exact Or.inl ⟨z, if_pos z⟩
  · have k : 0 ≤ J.toInt ∧ J.toInt < (n : Int) := by
      unfold okPl at h
      have : ¬ J.toInt = -1 := fun y => z (Int32.toInt_inj.mp (y.trans e1.symm))
      omega
    refine Or.inr ⟨J.toInt.toNat, by omega, ?_, if_neg z⟩
    exact Int32.toInt_inj.mp (by rw [ofN_toInt (by omega)]; omega)
theorem RB_vn {c : CF} {m : MF} {s : Sg} {i : Nat} (RS : RSs s c m) (hi : i < s.2.2) : ∀ v, v < 6 → vnM m i v < 100 ∧ m.2.2.2.2.2 (6 * i + v) = Int32.ofNat (vnM m i v) := fun v hv => nt_of (by decide) ((RS.2.2.2.2 i hi).2.2 v hv)
theorem RB_sn {c : CF} {m : MF} {s : Sg} (RS : RSs s c m) : ∀ q, q < s.1 * s.2.1 → snM m q < 6 ∧ m.2.1 q = Int32.ofNat (snM m q) := fun q hq => nt_of (by decide) (RS.2.1 q hq)
theorem wV_le {c : CF} {m : MF} {s : Sg} {i : Nat} {x : Int64} (hn : s.1 * s.2.1 ≤ 64) (RS : RSs s c m) (hi : i < s.2.2) : wV m (s.1 * s.2.1) i x ≤ 6356 := by
  have h1 := wS_le (vn := vnM m i) (sn := snM m) (x := x) (s.1 * s.2.1) (fun q hq => (RB_vn RS hi _ (RB_sn RS q hq).1).1)
  have h2 := bon_le (oakB m x) (m.2.2.2.2.1 i)
  unfold wV
  omega
theorem s_worthOf11 {d : Nat} {h : sHp} {p : Nat} {c : CF} {m : MF} {s : Sg} {i : Nat} {x : Int64} (hd : 4 ≤ d) (F : FC h p c) (g : gdF c s.1 s.2.1) (r : RB c m) (sI : sgI c s) (hi : i < s.2.2) : sDo d 37 [.ref p, .int (Int32.ofNat i), .long x] h (fun r h' => h' = h ∧ r = some (.int (Int32.ofNat (wV m (s.1 * s.2.1) i x)))) := by
  have RS := (r.2 s sI).1
  have RP := (r.2 s sI).2
  have hn := gdF_n g
  obtain ⟨W', H', N', -, -, -, -, -, -, mk⟩ := r.1
  have eo : c.1 9 = m.1 4 := mk 2 (by decide)
  have ef := (RS.2.2.1 i hi).2
  have key := s_wo11 (x := x) (vn := vnM m i) (bO := oakB m x) hd F sI.2.2.1 sI.2.2.2.2.2.2.2 hi (fun v hv => ⟨(RB_vn RS hi v hv).1, (RS.2.2.2.1 i hi v hv).trans (RB_vn RS hi v hv).2⟩) (by rw [eo]; exact oak_of hn.1 x (RP 2 (by decide))) (by rw [ef]; exact (RS.2.2.2.2 i hi).2.1)
  have e := wC_S (vn := vnM m i) (sn := snM m) (so := c.2.2.1) (x := x) hn.1 (fun q hq => (RB_sn RS q hq).1) (fun v hv => (RS.1 v hv).trans (stO_ext hn.1 (fun q hq => by
    have k := RB_sn RS q hq
    refine decide_eq_decide.mpr ⟨fun z => ?_, fun z => by rw [k.2, z]⟩
    rw [k.2] at z
    exact ofN_inj (by omega) (by omega) z)))
  rw [e, ef] at key
  exact key
theorem s_worthOf12 {d : Nat} {h : sHp} {c : CF} {m : MF} {s : Sg} {i : Nat} {x : Int64} (hd : 3 ≤ d) (M : MC h m) (g : gdF c s.1 s.2.1) (gM : gdM m.1 s.1 s.2.1) (r : RB c m) (sI : sgI c s) (hi : i < s.2.2) : sDo d 211 [.ref 60, .int (Int32.ofNat i), .long x] h (fun r h' => h' = h ∧ r = some (.int (Int32.ofNat (wV m (s.1 * s.2.1) i x)))) := by
  have RS := (r.2 s sI).1
  have RP := (r.2 s sI).2
  have hn := gdF_n g
  have n5 := sI.2.2.2.2.2.2.2
  have key := s_wo12 (x := x) (vn := vnM m i) (sn := snM m) (bO := oakB m x) hd M gM (by omega) (RB_vn RS hi) (RB_sn RS) (oak_of hn.1 x (RP 2 (by decide)))
  rw [Nat.add_comm] at key
  exact key
theorem pr_qR {R : sHp → Prop} {c1 c2 : bCn} {as : List Value} (h1 : bHolds c1) (h2 : bHolds c2) (d1 : Nat.ble c1.2.1 10 = true) (d2 : Nat.ble c2.2.1 10 = true) (g1 : Nat.ble c1.2.2.2.2.2.1 1 = true) (g2 : Nat.ble c2.2.2.2.2.2.1 1 = true) (o1 : c1.2.2.2.1 = []) (o2 : c2.2.2.2.1 = []) (t1 : ∀ h, bH h → bTl h c1.2.2.1 (.ref 0 :: as)) (t2 : ∀ h, bH h → bTl h c2.2.2.1 (.ref 60 :: as)) (w1 : ∀ {g : Nat} {h h' : sHp}, bH h' → bFr c1.2.2.2.2.1 g h h' → R h → R h') (w2 : ∀ {g : Nat} {h h' : sHp}, bH h' → bFr c2.2.2.2.2.1 g h h' → R h → R h') (e : ∀ h, bH h → R h → ∃ v, sDo 10 c1.1 (.ref 0 :: as) h (fun r h1 => r = some v ∧ vE h h1) ∧ ∀ h1, bH h1 → vE h h1 → sDo 10 c2.1 (.ref 60 :: as) h1 (fun r _ => r = some v)) : pairR R c1.1 c2.1 as :=
  pr_mk h1 h2 d1 d2 g1 g2 o1 o2 t1 t2 (fun h hH hR => by
    obtain ⟨v, e1, e2⟩ := e h hH hR
    exact sDo_mono e1 (fun r1 h1' q hH1 fr1 => sDo_mono (e2 h1' hH1 q.2) (fun r2 h2' p hH2 fr2 => ⟨w2 hH2 fr2 (w1 hH1 fr1 hR), v, q.1, p⟩)))
theorem MC_vE {h h1 : sHp} {m : MF} (M : MC h m) (E : vE h h1) : MC h1 m := MC_tr M (fun q x h1 h2 h3 hx => vE_at E hx (by omega))
theorem s_worth11 {d : Nat} {h : sHp} {ik tf : Int32} {c : CF} {m : MF} {s : Sg} {i : Nat} {y : Int64} (hd : 5 ≤ d) (h0 : h[0]? = some (cO ik tf)) (F : FC h 5 c) (g : gdF c s.1 s.2.1) (r : RB c m) (sI : sgI c s) (hi : i < s.2.2) (hy : inN y (s.1 * s.2.1)) : sDo d 131 [.ref 0, .int (Int32.ofNat i), .long y] h (fun r h' => r = some (.int (Int32.ofNat (wV m (s.1 * s.2.1) i y))) ∧ h' = h) := by
  have n5 := sI.2.2.2.2.2.2.2
  have ei := ofN_toInt (n := i) (by omega)
  refine sDo_of1 (nL := 4) (L := [some (.ref 0), some (.int (Int32.ofNat i)), some (.long y), none]) (by omega) rfl rfl ?_
  refine g_aload_n (i := 0) rfl rfl ?_
  refine g_getfield (v := .ref 5) rfl h0 (by decide) rfl ?_
  refine g_iload_n (i := 1) rfl rfl ?_
  refine g_virt1 (Qc := fun r h' => h' = h ∧ (((0 ≤ (Int32.ofNat i).toInt ∧ (Int32.ofNat i).toInt < (s.2.2 : Int)) ∧ r = some (.int 1)) ∨ (¬ (0 ≤ (Int32.ofNat i).toInt ∧ (Int32.ofNat i).toInt < (s.2.2 : Int)) ∧ r = some (.int 0)))) rfl (by decide) rfl F.1 rfl (Nat.le_of_ble_eq_true rfl) (s_hr11 (by omega) F sI.2.2.1 n5) (fun r h hq9 => ?_)
  obtain ⟨rfl, ⟨c_1, rfl⟩ | ⟨c_1, rfl⟩⟩ := hq9
  · skip
    refine g_if_eq 22 rfl rfl (fun hc => absurd hc (by decide)) (fun _ => ?_)
    refine g_aload_n (i := 0) rfl rfl ?_
    refine g_getfield (v := .ref 5) rfl h0 (by decide) rfl ?_
    refine g_lload_n (i := 2) rfl rfl ?_
    refine g_virt1 (Qc := fun r h' => h' = h ∧ (((inN y (s.1 * s.2.1)) ∧ r = some (.int 1)) ∨ (¬ (inN y (s.1 * s.2.1)) ∧ r = some (.int 0)))) rfl (by decide) rfl F.1 rfl (Nat.le_of_ble_eq_true rfl) (s_hasAll (by omega) F g) (fun r h hq9 => ?_)
    obtain ⟨rfl, ⟨c_2, rfl⟩ | ⟨c_2, rfl⟩⟩ := hq9
    · skip
      refine g_if_ne 28 rfl rfl (fun _ => ?_) (fun hc => absurd hc (by decide))
      refine g_aload_n (i := 0) rfl rfl ?_
      refine g_getfield (v := .ref 5) rfl h0 (by decide) rfl ?_
      refine g_iload_n (i := 1) rfl rfl ?_
      refine g_lload_n (i := 2) rfl rfl ?_
      refine g_virt2 (Qc := fun r h' => h' = h ∧ r = some (.int (Int32.ofNat (wV m (s.1 * s.2.1) i y)))) rfl (by decide) rfl F.1 rfl (Nat.le_of_ble_eq_true rfl) (s_worthOf11 (by omega) F g r sI hi) (fun r h hq9 => ?_)
      obtain ⟨rfl, rfl⟩ := hq9
      refine g_ireturn (ty := .int) rfl rfl rfl ?_
      exact ⟨rfl, rfl⟩
    · skip
      exact absurd hy c_2
  · skip
    omega
theorem s_worth11n {d : Nat} {h : sHp} {ik tf : Int32} {R : Nat → Int32} {c : CF} {s : Sg} {x : Int32} {y : Int64} (hd : 4 ≤ d) (h0 : h[0]? = some (cO ik tf)) (hR : h[43]? = some (rFc R)) (F : FC h 5 c) (g : gdF c s.1 s.2.1) (sI : sgI c s) (hx : ¬ ((0 ≤ x.toInt ∧ x.toInt < (s.2.2 : Int)) ∧ inN y (s.1 * s.2.1))) : sDo d 131 [.ref 0, .int x, .long y] h (fun r h' => r = some (.int (-1)) ∧ h' = h.set 43 (rFc (bump R 1))) := by
  have n5 := sI.2.2.2.2.2.2.2
  refine sDo_of1 (nL := 4) (L := [some (.ref 0), some (.int x), some (.long y), none]) (by omega) rfl rfl ?_
  refine g_aload_n (i := 0) rfl rfl ?_
  refine g_getfield (v := .ref 5) rfl h0 (by decide) rfl ?_
  refine g_iload_n (i := 1) rfl rfl ?_
  refine g_virt1 (Qc := fun r h' => h' = h ∧ (((0 ≤ x.toInt ∧ x.toInt < (s.2.2 : Int)) ∧ r = some (.int 1)) ∨ (¬ (0 ≤ x.toInt ∧ x.toInt < (s.2.2 : Int)) ∧ r = some (.int 0)))) rfl (by decide) rfl F.1 rfl (Nat.le_of_ble_eq_true rfl) (s_hr11 (by omega) F sI.2.2.1 n5) (fun r h hq9 => ?_)
  obtain ⟨rfl, ⟨c_1, rfl⟩ | ⟨c_1, rfl⟩⟩ := hq9
  · skip
    refine g_if_eq 22 rfl rfl (fun hc => absurd hc (by decide)) (fun _ => ?_)
    refine g_aload_n (i := 0) rfl rfl ?_
    refine g_getfield (v := .ref 5) rfl h0 (by decide) rfl ?_
    refine g_lload_n (i := 2) rfl rfl ?_
    refine g_virt1 (Qc := fun r h' => h' = h ∧ (((inN y (s.1 * s.2.1)) ∧ r = some (.int 1)) ∨ (¬ (inN y (s.1 * s.2.1)) ∧ r = some (.int 0)))) rfl (by decide) rfl F.1 rfl (Nat.le_of_ble_eq_true rfl) (s_hasAll (by omega) F g) (fun r h hq9 => ?_)
    obtain ⟨rfl, ⟨c_2, rfl⟩ | ⟨c_2, rfl⟩⟩ := hq9
    · skip
      exact absurd ⟨c_1, c_2⟩ hx
    · skip
      refine g_if_ne 28 rfl rfl (fun hc => absurd hc (by decide)) (fun _ => ?_)
      refine g_aload_n (i := 0) rfl rfl ?_
      refine g_iconst (n := (-1)) rfl ?_
      refine g_virt1 (Qc := fun r h' => r = some (.int ((Int32.ofInt (-1)))) ∧ h' = h.set 43 (rFc (bump R 1))) rfl (by decide) rfl h0 rfl (Nat.le_of_ble_eq_true rfl) (s_refuse2 (X := 1) (by omega) h0 hR rfl (by decide)) (fun r h9 hq9 => ?_)
      obtain ⟨rfl, rfl⟩ := hq9
      refine g_ireturn (ty := .int) rfl rfl rfl ?_
      exact ⟨rfl, rfl⟩
  · skip
    refine g_if_eq 22 rfl rfl (fun _ => ?_) (fun hc => absurd hc (by decide))
    refine g_aload_n (i := 0) rfl rfl ?_
    refine g_iconst (n := (-1)) rfl ?_
    refine g_virt1 (Qc := fun r h' => r = some (.int ((Int32.ofInt (-1)))) ∧ h' = h.set 43 (rFc (bump R 1))) rfl (by decide) rfl h0 rfl (Nat.le_of_ble_eq_true rfl) (s_refuse2 (X := 1) (by omega) h0 hR rfl (by decide)) (fun r h9 hq9 => ?_)
    obtain ⟨rfl, rfl⟩ := hq9
    refine g_ireturn (ty := .int) rfl rfl rfl ?_
    exact ⟨rfl, rfl⟩
theorem s_worth12 {d : Nat} {h : sHp} {c : CF} {m : MF} {s : Sg} {i : Nat} {y : Int64} (hd : 4 ≤ d) (M : MC h m) (g : gdF c s.1 s.2.1) (gM : gdM m.1 s.1 s.2.1) (r : RB c m) (sI : sgI c s) (sJ : sgJ m.1 s) (hi : i < s.2.2) (hy : inN y (s.1 * s.2.1)) : sDo d 212 [.ref 60, .int (Int32.ofNat i), .long y] h (fun r h' => r = some (.int (Int32.ofNat (wV m (s.1 * s.2.1) i y))) ∧ h' = h) := by
  have n5 := sI.2.2.2.2.2.2.2
  have ei := ofN_toInt (n := i) (by omega)
  refine sDo_of1 (nL := 4) (L := [some (.ref 60), some (.int (Int32.ofNat i)), some (.long y), none]) (by omega) rfl rfl ?_
  refine g_aload_n (i := 0) rfl rfl ?_
  refine g_iload_n (i := 1) rfl rfl ?_
  refine g_virt1 (Qc := fun r h' => h' = h ∧ (((0 ≤ (Int32.ofNat i).toInt ∧ (Int32.ofNat i).toInt < (s.2.2 : Int)) ∧ r = some (.int 1)) ∨ (¬ (0 ≤ (Int32.ofNat i).toInt ∧ (Int32.ofNat i).toInt < (s.2.2 : Int)) ∧ r = some (.int 0)))) rfl (by decide) rfl M.1 rfl (Nat.le_of_ble_eq_true rfl) (s_hr12 (by omega) M.1 sJ.2.2.1 n5) (fun r h hq9 => ?_)
  obtain ⟨rfl, ⟨c_1, rfl⟩ | ⟨c_1, rfl⟩⟩ := hq9
  · skip
    refine g_if_eq 25 rfl rfl (fun hc => absurd hc (by decide)) (fun _ => ?_)
    refine g_aload_n (i := 0) rfl rfl ?_
    refine g_lload_n (i := 2) rfl rfl ?_
    refine g_virt1 (Qc := fun r h' => h' = h ∧ (((inN y (s.1 * s.2.1)) ∧ r = some (.int 1)) ∨ (¬ (inN y (s.1 * s.2.1)) ∧ r = some (.int 0)))) rfl (by decide) rfl M.1 rfl (Nat.le_of_ble_eq_true rfl) (s_isSet12 (by omega) M.1 gM) (fun r h hq9 => ?_)
    obtain ⟨rfl, ⟨c_2, rfl⟩ | ⟨c_2, rfl⟩⟩ := hq9
    · skip
      refine g_if_eq 25 rfl rfl (fun hc => absurd hc (by decide)) (fun _ => ?_)
      refine g_aload_n (i := 0) rfl rfl ?_
      refine g_iload_n (i := 1) rfl rfl ?_
      refine g_lload_n (i := 2) rfl rfl ?_
      refine g_virt2 (Qc := fun r h' => h' = h ∧ r = some (.int (Int32.ofNat (wV m (s.1 * s.2.1) i y)))) rfl (by decide) rfl M.1 rfl (Nat.le_of_ble_eq_true rfl) (s_worthOf12 (by omega) M g gM r sI hi) (fun r h hq9 => ?_)
      obtain ⟨rfl, rfl⟩ := hq9
      refine g_goto 30 rfl rfl ?_
      refine g_ireturn (ty := .int) rfl rfl rfl ?_
      exact ⟨rfl, rfl⟩
    · skip
      exact absurd hy c_2
  · skip
    omega
theorem s_worth12n {d : Nat} {h : sHp} {R : Nat → Int32} {m : MF} {s : Sg} {x : Int32} {y : Int64} (hd : 4 ≤ d) (M : MC h m) (hR : h[61]? = some (rFc R)) (gM : gdM m.1 s.1 s.2.1) (sJ : sgJ m.1 s) (hx : ¬ ((0 ≤ x.toInt ∧ x.toInt < (s.2.2 : Int)) ∧ inN y (s.1 * s.2.1))) : sDo d 212 [.ref 60, .int x, .long y] h (fun r h' => r = some (.int (-1)) ∧ h' = h.set 61 (rFc (bump R 1))) := by
  have n5 := sJ.2.2.2.2.2.2.2
  refine sDo_of1 (nL := 4) (L := [some (.ref 60), some (.int x), some (.long y), none]) (by omega) rfl rfl ?_
  refine g_aload_n (i := 0) rfl rfl ?_
  refine g_iload_n (i := 1) rfl rfl ?_
  refine g_virt1 (Qc := fun r h' => h' = h ∧ (((0 ≤ x.toInt ∧ x.toInt < (s.2.2 : Int)) ∧ r = some (.int 1)) ∨ (¬ (0 ≤ x.toInt ∧ x.toInt < (s.2.2 : Int)) ∧ r = some (.int 0)))) rfl (by decide) rfl M.1 rfl (Nat.le_of_ble_eq_true rfl) (s_hr12 (by omega) M.1 sJ.2.2.1 n5) (fun r h hq9 => ?_)
  obtain ⟨rfl, ⟨c_1, rfl⟩ | ⟨c_1, rfl⟩⟩ := hq9
  · skip
    refine g_if_eq 25 rfl rfl (fun hc => absurd hc (by decide)) (fun _ => ?_)
    refine g_aload_n (i := 0) rfl rfl ?_
    refine g_lload_n (i := 2) rfl rfl ?_
    refine g_virt1 (Qc := fun r h' => h' = h ∧ (((inN y (s.1 * s.2.1)) ∧ r = some (.int 1)) ∨ (¬ (inN y (s.1 * s.2.1)) ∧ r = some (.int 0)))) rfl (by decide) rfl M.1 rfl (Nat.le_of_ble_eq_true rfl) (s_isSet12 (by omega) M.1 gM) (fun r h hq9 => ?_)
    obtain ⟨rfl, ⟨c_2, rfl⟩ | ⟨c_2, rfl⟩⟩ := hq9
    · skip
      exact absurd ⟨c_1, c_2⟩ hx
    · skip
      refine g_if_eq 25 rfl rfl (fun _ => ?_) (fun hc => absurd hc (by decide))
      refine g_aload_n (i := 0) rfl rfl ?_
      refine g_iconst (n := (-1)) rfl ?_
      refine g_virt1 (Qc := fun r h' => r = some (.int ((Int32.ofInt (-1)))) ∧ h' = h.set 61 (rFc (bump R 1))) rfl (by decide) rfl M.1 rfl (Nat.le_of_ble_eq_true rfl) (s_no2 (X := 1) (by omega) M.1 hR rfl (by decide)) (fun r h9 hq9 => ?_)
      obtain ⟨rfl, rfl⟩ := hq9
      refine g_ireturn (ty := .int) rfl rfl rfl ?_
      exact ⟨rfl, rfl⟩
  · skip
    refine g_if_eq 25 rfl rfl (fun _ => ?_) (fun hc => absurd hc (by decide))
    refine g_aload_n (i := 0) rfl rfl ?_
    refine g_iconst (n := (-1)) rfl ?_
    refine g_virt1 (Qc := fun r h' => r = some (.int ((Int32.ofInt (-1)))) ∧ h' = h.set 61 (rFc (bump R 1))) rfl (by decide) rfl M.1 rfl (Nat.le_of_ble_eq_true rfl) (s_no2 (X := 1) (by omega) M.1 hR rfl (by decide)) (fun r h9 hq9 => ?_)
    obtain ⟨rfl, rfl⟩ := hq9
    refine g_ireturn (ty := .int) rfl rfl rfl ?_
    exact ⟨rfl, rfl⟩
theorem pr8_worth (x : Int32) (y : Int64) : pairR bR8 131 212 [.int x, .long y] := pr_qR (c1 := cn_X11_worth_0) (c2 := cn_X12_worth_0) ch_X11_worth_0 ch_X12_worth_0 (by decide +kernel) (by decide +kernel) (by decide +kernel) (by decide +kernel) rfl rfl (fun h hH => ⟨bt0 hH, vI0 x, vL0 y, trivial⟩) (fun h hH => ⟨bt60 hH, vI0 x, vL0 y, trivial⟩) (fun hH a q => bR8_fr hH a (by decide +kernel) q) (fun hH a q => bR8_fr hH a (by decide +kernel) q) (fun h hH hR => by
  obtain ⟨⟨hd, so, sz, co, cl, f, gg, q4, bs⟩, c, ck, m, gk, ik, tf, kc, km, ej, rl, rk⟩ := hR
  have F := kc.1
  have h0 := kc.2.2.1
  have M := km.1
  obtain ⟨R, hR43⟩ := RA_of hH (p := 43) (Or.inl rfl)
  obtain ⟨s, sI, sJ, g, gM⟩ := RN_sg rl.1
  have n5 := sI.2.2.2.2.2.2.2
  have hn := gdF_n g
  by_cases hx : (0 ≤ x.toInt ∧ x.toInt < (s.2.2 : Int)) ∧ inN y (s.1 * s.2.1)
  · obtain ⟨hx, hy⟩ := hx
    obtain ⟨i, hi⟩ : ∃ i : Nat, x.toInt = i := ⟨x.toInt.toNat, by omega⟩
    have ex : x = Int32.ofNat i := Int32.toInt_inj.mp (by rw [hi, ofN_toInt (by omega)])
    subst ex
    exact ⟨_, sDo_mono (s_worth11 (d := 10) (by omega) h0 F g rl sI (by omega) hy) (fun r h' q => ⟨q.1, by rw [q.2]; exact vE_rfl⟩), fun h1 hH1 E => sDo_mono (s_worth12 (d := 10) (by omega) (MC_vE M E) g gM rl sI sJ (by omega) hy) (fun r h' q => q.1)⟩
  · refine ⟨_, sDo_mono (s_worth11n (d := 10) (by omega) h0 hR43 F g sI hx) (fun r h' q => ⟨q.1, by rw [q.2]; exact vE_43⟩), fun h1 hH1 E => ?_⟩
    obtain ⟨Rm, hRm⟩ := RA_of hH1 (p := 61) (Or.inr rfl)
    exact sDo_mono (s_worth12n (d := 10) (by omega) (MC_vE M E) hRm gM sJ hx) (fun r h' q => q.1))
