/-! ===== fond; pairs of soil, worths, fond ===== -/
theorem s_fond11 {d : Nat} {h : sHp} {ik tf : Int32} {c : CF} {N i : Nat} {b : Int32} (hd : 3 ≤ d) (h0 : h[0]? = some (cO ik tf)) (F : FC h 5 c) (hI : c.1 11 = Int32.ofNat N) (hN : N ≤ 5) (hi : i < N) (hb : b = 0 ∨ b = 1) : sDo d 129 [.ref 0, .int (Int32.ofNat i), .int b] h (fun r h' => ((c.2.2.2.2.2.1 i = b ∧ r = some (.int 0)) ∨ (¬ c.2.2.2.2.2.1 i = b ∧ r = some (.int 1))) ∧ h' = h.set 14 (.inl (2, 5, .inl (upd c.2.2.2.2.2.1 i b)))) := by
  have ei := ofN_toInt (n := i) (by omega)
  refine sDo_of1 (nL := 4) (L := [some (.ref 0), some (.int (Int32.ofNat i)), some (.int b), none]) (by omega) rfl rfl ?_
  refine g_aload_n (i := 0) rfl rfl ?_
  refine g_getfield (v := .ref 5) rfl h0 (by decide) rfl ?_
  refine g_iload_n (i := 1) rfl rfl ?_
  refine g_virt1 (Qc := fun r h' => h' = h ∧ (((0 ≤ (Int32.ofNat i).toInt ∧ (Int32.ofNat i).toInt < (N : Int)) ∧ r = some (.int 1)) ∨ (¬ (0 ≤ (Int32.ofNat i).toInt ∧ (Int32.ofNat i).toInt < (N : Int)) ∧ r = some (.int 0)))) rfl (by decide) rfl F.1 rfl (Nat.le_of_ble_eq_true rfl) (s_hr11 (by omega) F hI hN) (fun r h hq9 => ?_)
  obtain ⟨rfl, ⟨c_1, rfl⟩ | ⟨c_1, rfl⟩⟩ := hq9
  · skip
    refine g_if_ne 17 rfl rfl (fun _ => ?_) (fun hc => absurd hc (by decide))
    refine g_aload_n (i := 0) rfl rfl ?_
    refine g_getfield (v := .ref 5) rfl h0 (by decide) rfl ?_
    refine g_getfield (v := .ref (5 + 9)) rfl F.1 (by decide) rfl ?_
    refine g_iload_n (i := 1) rfl rfl ?_
    refine g_baload (n := 5) (f := c.2.2.2.2.2.1) rfl F.2.2.2.2.2.1 (i_in (by omega) (by omega)) ?_
    rw [i_nat ei]
    refine g_istore_n (i := 3) (L1 := [some (.ref 0), some (.int (Int32.ofNat i)), some (.int b), some (.int (c.2.2.2.2.2.1 i))]) rfl (Nat.le_of_ble_eq_true rfl) rfl ?_
    refine g_aload_n (i := 0) rfl rfl ?_
    refine g_getfield (v := .ref 5) rfl h0 (by decide) rfl ?_
    refine g_getfield (v := .ref (5 + 9)) rfl F.1 (by decide) rfl ?_
    refine g_iload_n (i := 1) rfl rfl ?_
    refine g_iload_n (i := 2) rfl rfl ?_
    refine g_bastore (h1 := h.set 14 (.inl (2, 5, .inl (upd c.2.2.2.2.2.1 i b)))) rfl F.2.2.2.2.2.1 hb (i_in (by omega) (by omega)) (by rw [i_nat ei]) ?_
    refine g_iload_n (i := 3) rfl rfl ?_
    refine g_iload_n (i := 2) rfl rfl ?_
    refine g_icmp_ne 46 rfl rfl (fun c_2 => ?_) (fun c_2 => ?_)
    · skip
      rw [i_eq] at c_2
      refine g_iconst (n := 1) rfl ?_
      refine g_ireturn (ty := .int) rfl rfl rfl ?_
      exact ⟨Or.inr ⟨fun z => c_2 (by rw [z]), rfl⟩, rfl⟩
    · skip
      rw [i_eq] at c_2
      refine g_iconst (n := 0) rfl ?_
      refine g_goto 47 rfl rfl ?_
      refine g_ireturn (ty := .int) rfl rfl rfl ?_
      exact ⟨Or.inl ⟨Int32.toInt_inj.mp c_2, rfl⟩, rfl⟩
  · skip
    omega
theorem s_fond11n {d : Nat} {h : sHp} {ik tf : Int32} {R : Nat → Int32} {c : CF} {N : Nat} {x b : Int32} (hd : 3 ≤ d) (h0 : h[0]? = some (cO ik tf)) (hR : h[43]? = some (rFc R)) (F : FC h 5 c) (hI : c.1 11 = Int32.ofNat N) (hN : N ≤ 5) (hx : ¬ (0 ≤ x.toInt ∧ x.toInt < (N : Int))) : sDo d 129 [.ref 0, .int x, .int b] h (fun r h' => r = some (.int (-1)) ∧ h' = h.set 43 (rFc (bump R 1))) := by
  refine sDo_of1 (nL := 4) (L := [some (.ref 0), some (.int x), some (.int b), none]) (by omega) rfl rfl ?_
  refine g_aload_n (i := 0) rfl rfl ?_
  refine g_getfield (v := .ref 5) rfl h0 (by decide) rfl ?_
  refine g_iload_n (i := 1) rfl rfl ?_
  refine g_virt1 (Qc := fun r h' => h' = h ∧ (((0 ≤ x.toInt ∧ x.toInt < (N : Int)) ∧ r = some (.int 1)) ∨ (¬ (0 ≤ x.toInt ∧ x.toInt < (N : Int)) ∧ r = some (.int 0)))) rfl (by decide) rfl F.1 rfl (Nat.le_of_ble_eq_true rfl) (s_hr11 (by omega) F hI hN) (fun r h hq9 => ?_)
  obtain ⟨rfl, ⟨c_1, rfl⟩ | ⟨c_1, rfl⟩⟩ := hq9
  · skip
    omega
  · skip
    refine g_if_ne 17 rfl rfl (fun hc => absurd hc (by decide)) (fun _ => ?_)
    refine g_aload_n (i := 0) rfl rfl ?_
    refine g_iconst (n := (-1)) rfl ?_
    refine g_virt1 (Qc := fun r h' => r = some (.int ((Int32.ofInt (-1)))) ∧ h' = h.set 43 (rFc (bump R 1))) rfl (by decide) rfl h0 rfl (Nat.le_of_ble_eq_true rfl) (s_refuse2 (X := 1) (by omega) h0 hR rfl (by decide)) (fun r h9 hq9 => ?_)
    obtain ⟨rfl, rfl⟩ := hq9
    refine g_ireturn (ty := .int) rfl rfl rfl ?_
    exact ⟨rfl, rfl⟩
theorem s_fond12 {d : Nat} {h : sHp} {m : MF} {N i : Nat} {b : Int32} (hd : 3 ≤ d) (M : MC h m) (hI : m.1 6 = Int32.ofNat N) (hN : N ≤ 5) (hi : i < N) (hb : b = 0 ∨ b = 1) : sDo d 209 [.ref 60, .int (Int32.ofNat i), .int b] h (fun r h' => (m.2.2.2.2.1 i = b ∧ r = some (.int 0) ∧ h' = h) ∨ (¬ m.2.2.2.2.1 i = b ∧ r = some (.int 1) ∧ h' = h.set 65 (.inl (0, 5, .inl (upd m.2.2.2.2.1 i b))))) := by
  have ei := ofN_toInt (n := i) (by omega)
  rcases hb with rfl | rfl
  · refine sDo_of1 (nL := 4) (L := [some (.ref 60), some (.int (Int32.ofNat i)), some (.int 0), none]) (by omega) rfl rfl ?_
    refine g_aload_n (i := 0) rfl rfl ?_
    refine g_iload_n (i := 1) rfl rfl ?_
    refine g_virt1 (Qc := fun r h' => h' = h ∧ (((0 ≤ (Int32.ofNat i).toInt ∧ (Int32.ofNat i).toInt < (N : Int)) ∧ r = some (.int 1)) ∨ (¬ (0 ≤ (Int32.ofNat i).toInt ∧ (Int32.ofNat i).toInt < (N : Int)) ∧ r = some (.int 0)))) rfl (by decide) rfl M.1 rfl (Nat.le_of_ble_eq_true rfl) (s_hr12 (by omega) M.1 hI hN) (fun r h hq9 => ?_)
    obtain ⟨rfl, ⟨c_1, rfl⟩ | ⟨c_1, rfl⟩⟩ := hq9
    · skip
      refine g_if_ne 14 rfl rfl (fun _ => ?_) (fun hc => absurd hc (by decide))
      refine g_iload_n (i := 2) rfl rfl ?_
      refine g_if_eq 22 rfl rfl (fun _ => ?_) (fun hc => absurd hc (by decide))
      refine g_iconst (n := 0) rfl ?_
      refine g_istore_n (i := 3) (L1 := [some (.ref 60), some (.int (Int32.ofNat i)), some (.int 0), some (.int (Int32.ofInt 0))]) rfl (Nat.le_of_ble_eq_true rfl) rfl ?_
      refine g_aload_n (i := 0) rfl rfl ?_
      refine g_getfield (v := .ref 65) rfl M.1 (by decide) rfl ?_
      refine g_iload_n (i := 1) rfl rfl ?_
      refine g_iaload (n := 5) (f := m.2.2.2.2.1) rfl M.2.2.2.2.1 (i_in (by omega) (by omega)) ?_
      rw [i_nat ei]
      refine g_iload_n (i := 3) rfl rfl ?_
      have k_3 : (Int32.ofInt 0).toInt = 0 := rfl
      refine g_icmp_ne 36 rfl rfl (fun c_2 => ?_) (fun c_2 => ?_)
      · skip
        rw [i_eq, k_3] at c_2
        refine g_aload_n (i := 0) rfl rfl ?_
        refine g_getfield (v := .ref 65) rfl M.1 (by decide) rfl ?_
        refine g_iload_n (i := 1) rfl rfl ?_
        refine g_iload_n (i := 3) rfl rfl ?_
        refine g_iastore (n := 5) (f := m.2.2.2.2.1) (h1 := h.set 65 (.inl (0, 5, .inl (upd m.2.2.2.2.1 i 0)))) rfl M.2.2.2.2.1 (i_in (by omega) (by omega)) (by rw [i_nat ei]; rfl) ?_
        refine g_iconst (n := 1) rfl ?_
        refine g_ireturn (ty := .int) rfl rfl rfl ?_
        exact Or.inr ⟨fun z => c_2 (by rw [z]; rfl), rfl, rfl⟩
      · skip
        rw [i_eq, k_3] at c_2
        refine g_iconst (n := 0) rfl ?_
        refine g_ireturn (ty := .int) rfl rfl rfl ?_
        exact Or.inl ⟨Int32.toInt_inj.mp (c_2.trans (show (0 : Int) = ((0 : Int32)).toInt from rfl)), rfl, rfl⟩
    · skip
      omega
  · refine sDo_of1 (nL := 4) (L := [some (.ref 60), some (.int (Int32.ofNat i)), some (.int 1), none]) (by omega) rfl rfl ?_
    refine g_aload_n (i := 0) rfl rfl ?_
    refine g_iload_n (i := 1) rfl rfl ?_
    refine g_virt1 (Qc := fun r h' => h' = h ∧ (((0 ≤ (Int32.ofNat i).toInt ∧ (Int32.ofNat i).toInt < (N : Int)) ∧ r = some (.int 1)) ∨ (¬ (0 ≤ (Int32.ofNat i).toInt ∧ (Int32.ofNat i).toInt < (N : Int)) ∧ r = some (.int 0)))) rfl (by decide) rfl M.1 rfl (Nat.le_of_ble_eq_true rfl) (s_hr12 (by omega) M.1 hI hN) (fun r h hq9 => ?_)
    obtain ⟨rfl, ⟨c_1, rfl⟩ | ⟨c_1, rfl⟩⟩ := hq9
    · skip
      refine g_if_ne 14 rfl rfl (fun _ => ?_) (fun hc => absurd hc (by decide))
      refine g_iload_n (i := 2) rfl rfl ?_
      refine g_if_eq 22 rfl rfl (fun hc => absurd hc (by decide)) (fun _ => ?_)
      refine g_iconst (n := 1) rfl ?_
      refine g_goto 23 rfl rfl ?_
      refine g_istore_n (i := 3) (L1 := [some (.ref 60), some (.int (Int32.ofNat i)), some (.int 1), some (.int (Int32.ofInt 1))]) rfl (Nat.le_of_ble_eq_true rfl) rfl ?_
      refine g_aload_n (i := 0) rfl rfl ?_
      refine g_getfield (v := .ref 65) rfl M.1 (by decide) rfl ?_
      refine g_iload_n (i := 1) rfl rfl ?_
      refine g_iaload (n := 5) (f := m.2.2.2.2.1) rfl M.2.2.2.2.1 (i_in (by omega) (by omega)) ?_
      rw [i_nat ei]
      refine g_iload_n (i := 3) rfl rfl ?_
      have k_3 : (Int32.ofInt 1).toInt = 1 := rfl
      refine g_icmp_ne 36 rfl rfl (fun c_2 => ?_) (fun c_2 => ?_)
      · skip
        rw [i_eq, k_3] at c_2
        refine g_aload_n (i := 0) rfl rfl ?_
        refine g_getfield (v := .ref 65) rfl M.1 (by decide) rfl ?_
        refine g_iload_n (i := 1) rfl rfl ?_
        refine g_iload_n (i := 3) rfl rfl ?_
        refine g_iastore (n := 5) (f := m.2.2.2.2.1) (h1 := h.set 65 (.inl (0, 5, .inl (upd m.2.2.2.2.1 i 1)))) rfl M.2.2.2.2.1 (i_in (by omega) (by omega)) (by rw [i_nat ei]; rfl) ?_
        refine g_iconst (n := 1) rfl ?_
        refine g_ireturn (ty := .int) rfl rfl rfl ?_
        exact Or.inr ⟨fun z => c_2 (by rw [z]; rfl), rfl, rfl⟩
      · skip
        rw [i_eq, k_3] at c_2
        refine g_iconst (n := 0) rfl ?_
        refine g_ireturn (ty := .int) rfl rfl rfl ?_
        exact Or.inl ⟨Int32.toInt_inj.mp (c_2.trans (show (1 : Int) = ((1 : Int32)).toInt from rfl)), rfl, rfl⟩
    · skip
      omega
theorem s_fond12n {d : Nat} {h : sHp} {R : Nat → Int32} {m : MF} {N : Nat} {x b : Int32} (hd : 3 ≤ d) (M : MC h m) (hR : h[61]? = some (rFc R)) (hI : m.1 6 = Int32.ofNat N) (hN : N ≤ 5) (hx : ¬ (0 ≤ x.toInt ∧ x.toInt < (N : Int))) : sDo d 209 [.ref 60, .int x, .int b] h (fun r h' => r = some (.int (-1)) ∧ h' = h.set 61 (rFc (bump R 1))) := by
  refine sDo_of1 (nL := 4) (L := [some (.ref 60), some (.int x), some (.int b), none]) (by omega) rfl rfl ?_
  refine g_aload_n (i := 0) rfl rfl ?_
  refine g_iload_n (i := 1) rfl rfl ?_
  refine g_virt1 (Qc := fun r h' => h' = h ∧ (((0 ≤ x.toInt ∧ x.toInt < (N : Int)) ∧ r = some (.int 1)) ∨ (¬ (0 ≤ x.toInt ∧ x.toInt < (N : Int)) ∧ r = some (.int 0)))) rfl (by decide) rfl M.1 rfl (Nat.le_of_ble_eq_true rfl) (s_hr12 (by omega) M.1 hI hN) (fun r h hq9 => ?_)
  obtain ⟨rfl, ⟨c_1, rfl⟩ | ⟨c_1, rfl⟩⟩ := hq9
  · skip
    omega
  · skip
    refine g_if_ne 14 rfl rfl (fun hc => absurd hc (by decide)) (fun _ => ?_)
    refine g_aload_n (i := 0) rfl rfl ?_
    refine g_iconst (n := (-1)) rfl ?_
    refine g_virt1 (Qc := fun r h' => r = some (.int ((Int32.ofInt (-1)))) ∧ h' = h.set 61 (rFc (bump R 1))) rfl (by decide) rfl M.1 rfl (Nat.le_of_ble_eq_true rfl) (s_no2 (X := 1) (by omega) M.1 hR rfl (by decide)) (fun r h9 hq9 => ?_)
    obtain ⟨rfl, rfl⟩ := hq9
    refine g_ireturn (ty := .int) rfl rfl rfl ?_
    exact ⟨rfl, rfl⟩
theorem one_set {c : CF} {W H q : Nat} (g : gdF c W H) (hq : q < W * H) : (lowS (Int32.ofNat (q + 1)) &&& c.2.1 2) &&& ((lowS (Int32.ofNat q) &&& c.2.1 2) ^^^ Int64.ofNat 18446744073709551615) = (Int64.ofNat 1 <<< ((Int32.ofNat q).toInt64 &&& 63)) := by
  have hn := gdF_n g
  have g2 : c.2.1 2 = stO (fun _ => true) (W * H) := g.2.2.2.2.2.2.1
  refine bt_ext (fun i hi => ?_)
  show bt ((lowS (Int32.ofNat (q + 1)) &&& c.2.1 2) &&& ((lowS (Int32.ofNat q) &&& c.2.1 2) ^^^ lM1)) i = _
  rw [bt_and, bt_and, bt_not, bt_and, g2, bt_stO _ _ hn.1, bt_low2 (by omega) hi, bt_low2 (by omega) hi, bt_one (by omega), decide_eq_true hi, Bool.true_and, Bool.and_true]
  by_cases w : i = q
  · rw [decide_eq_true w, decide_eq_true (show i < q + 1 by omega), decide_eq_true (show i < W * H by omega), decide_eq_false (show ¬ i < q by omega)]; rfl
  · rw [decide_eq_false w]
    by_cases w2 : i < q
    · rw [decide_eq_true w2, decide_eq_true (show i < W * H by omega)]
      simp
    · rw [decide_eq_false (show ¬ i < q + 1 by omega), Bool.false_and, Bool.false_and]
theorem vZ0 {h : sHp} {b : Int32} (hb : b = 0 ∨ b = 1) : bT h (.inl (.ofNat 0, .ofNat 1)) (.int b) := ⟨b, rfl, by rcases hb with rfl | rfl <;> decide, by rcases hb with rfl | rfl <;> decide⟩
/-- FOND told anew -/
def relFo (Rel : CF → MF → Prop) : Prop := ∀ (c : CF) (m : MF) (s : Sg) (i : Nat) (b : Int32), Rel c m → sgI c s → i < s.2.2 → (b = 0 ∨ b = 1) → Rel (c.1, c.2.1, c.2.2.1, c.2.2.2.1, c.2.2.2.2.1, upd c.2.2.2.2.2.1 i b, c.2.2.2.2.2.2) (m.1, m.2.1, m.2.2.1, m.2.2.2.1, upd m.2.2.2.2.1 i b, m.2.2.2.2.2)
theorem RB_fo : relFo RB := fun c m s i b r q hi hb => by
  refine RB_mk (s := s) (RN_J (m' := (m.1, m.2.1, m.2.2.1, m.2.2.2.1, upd m.2.2.2.2.1 i b, m.2.2.2.2.2)) (RN_C (c' := (c.1, c.2.1, c.2.2.1, c.2.2.2.1, c.2.2.2.2.1, upd c.2.2.2.2.2.1 i b, c.2.2.2.2.2.2)) r.1 (fun _ _ => rfl) (fun _ _ _ => rfl)) (fun _ _ => rfl)) q ?_ (r.2 s q).2
  obtain ⟨r1, r2, r3, r4, r5⟩ := (r.2 s q).1
  refine ⟨r1, r2, fun k hk => ⟨(r3 k hk).1, ?_⟩, r4, fun k hk => ⟨(r5 k hk).1, ?_, (r5 k hk).2.2⟩⟩
  rotate_left
  · show upd m.2.2.2.2.1 i b k = 0 ∨ upd m.2.2.2.2.1 i b k = 1
    by_cases w : k = i
    · rw [w, u_at]; exact hb
    · rw [u_ne w]; exact (r5 k hk).2.1
  show upd c.2.2.2.2.2.1 i b k = upd m.2.2.2.2.1 i b k
  by_cases w : k = i
  · rw [w, u_at, u_at]
  · rw [u_ne w, u_ne w]; exact (r3 k hk).2
theorem pk_soil {Rel : CF → MF → Prop} (ok : relOk Rel) (hB : ∀ c m, Rel c m → RB c m) (x : Int32) (v : Int32) : pairR (bFL Rel) 125 205 [.int x, .int v] := pr_mk (c1 := cn_X11_soil_0) (c2 := cn_X12_soil_0) ch_X11_soil_0 ch_X12_soil_0 (by decide +kernel) (by decide +kernel) (by decide +kernel) (by decide +kernel) rfl rfl (fun h hH => ⟨bt0 hH, vI0 x, vI0 v, trivial⟩) (fun h hH => ⟨bt60 hH, vI0 x, vI0 v, trivial⟩) (fun h hH hR => by
  obtain ⟨c, ck, m, g, ik, tf, kc, km, ej, rl, rk⟩ := hR
  have F := kc.1
  have q0 := kc.2.2.1
  obtain ⟨Rc, hRc⟩ := RA_of hH (p := 43) (Or.inl rfl)
  obtain ⟨s, sI, sJ, gF, gM⟩ := RN_sg (ok.2.2.2.2.1 _ _ rl)
  have hn := gdF_n gF
  by_cases hx : (0 ≤ x.toInt ∧ x.toInt < ((s.1 * s.2.1 : Nat) : Int)) ∧ 0 ≤ v.toInt ∧ v.toInt < 6
  · have RS := ((hB _ _ rl).2 s sI).1
    obtain ⟨q, hq⟩ : ∃ q : Nat, x.toInt = q := ⟨x.toInt.toNat, by omega⟩
    have e_x : x = Int32.ofNat q := Int32.toInt_inj.mp (by rw [hq, ofN_toInt (by omega)])
    subst e_x
    obtain ⟨V, hV⟩ : ∃ V : Nat, v.toInt = V := ⟨v.toInt.toNat, by omega⟩
    have e_v : v = Int32.ofNat V := Int32.toInt_inj.mp (by rw [hV, ofN_toInt (by omega)])
    subst e_v
    obtain ⟨U, hU, eU⟩ := RS.2.1 q (by omega)
    have hb : ∀ u, u < 6 → bt (c.2.2.1 u) q = decide (u = U) := fun u hu => by
      rw [RS.1 u hu, bt_stO _ _ hn.1, decide_eq_true (show q < s.1 * s.2.1 by omega), Bool.true_and, eU]
      exact decide_eq_decide.mpr ⟨fun z => (ofN_inj (by omega) (by omega) z).symm, fun z => by rw [z]⟩
    refine sDo_mono (s_soil11 (d := 10) (W := s.1) (H := s.2.1) (q := q) (V := V) (U := U) (by omega) q0 hRc F gF (by omega) hU (by omega) hb) (fun r1 h1 p1 hH1 fr1 => ?_)
    obtain ⟨rfl, rfl⟩ := p1
    have F1 := FC_1 (so := giveS c.2.2.1 6 (Int64.ofNat 1 <<< ((Int32.ofNat q).toInt64 &&& 63)) V) F
    have E1 : fE 5 h (h.set 6 (.inl (1, 6, .inr (.inl (giveS c.2.2.1 6 (Int64.ofNat 1 <<< ((Int32.ofNat q).toInt64 &&& 63)) V))))) := fE_set fE_rfl (by decide) (by decide)
    have km1 := kM_fE km E1
    refine sDo_mono (s_soil12 (d := 10) (W := s.1) (H := s.2.1) (q := q) (V := V) (by omega) km1.1 gM (by omega) (by omega)) (fun r2 h2 p hH2 fr2 => ?_)
    obtain ⟨rfl, rfl⟩ := p
    have M2 := MC_1 (f := upd m.2.1 q (Int32.ofNat V)) km1.1
    have E2 := mE_set (q := 62) (x := .inl (0, 64, .inl (upd m.2.1 q (Int32.ofNat V)))) (mE_rfl (h := h.set 6 (.inl (1, 6, .inr (.inl (giveS c.2.2.1 6 (Int64.ofNat 1 <<< ((Int32.ofNat q).toInt64 &&& 63)) V)))))) (by decide)
    have rl2 := ok.2.1 c m s (1, V, q, q) rl sI sJ ⟨by omega, Nat.le_refl q, by omega⟩
    have e1 : cfDo c (1, V, q, q) = (c.1, c.2.1, giveS c.2.2.1 6 (Int64.ofNat 1 <<< ((Int32.ofNat q).toInt64 &&& 63)) V, c.2.2.2) := by
      show (c.1, c.2.1, giveS c.2.2.1 6 ((lowS (Int32.ofNat (q + 1)) &&& c.2.1 2) &&& ((lowS (Int32.ofNat q) &&& c.2.1 2) ^^^ Int64.ofNat 18446744073709551615)) V, c.2.2.2) = _
      rw [one_set gF (by omega)]
    have e2 : mfDo m (1, V, q, q) = (m.1, upd m.2.1 q (Int32.ofNat V), m.2.2) := by
      show (m.1, (fun i => if q ≤ i ∧ i ≤ q then Int32.ofNat V else m.2.1 i), m.2.2) = _
      rw [show (fun i => if q ≤ i ∧ i ≤ q then Int32.ofNat V else m.2.1 i) = upd m.2.1 q (Int32.ofNat V) from funext fun i => by
        unfold upd
        by_cases e : i = q
        · rw [if_pos (show q ≤ i ∧ i ≤ q by omega), if_pos e]
        · rw [if_neg (show ¬ (q ≤ i ∧ i ≤ q) by omega), if_neg e]]
    rw [e1, e2] at rl2
    exact ⟨⟨_, ck, _, g, ik, tf, kC_mE (kC_5 kc F1 E1) E2, ⟨M2, (E2.2 75 (by decide) (by decide)).trans km1.2⟩, ej, rl2, rk⟩, _, rfl, congrArg (fun z => some (Value.int z)) eU⟩
  · refine sDo_mono (s_soil11n (d := 10) (x := x) (v := v) (by omega) q0 hRc F gF hx) (fun r1 h1 p1 hH1 fr1 => ?_)
    obtain ⟨rfl, rfl⟩ := p1
    obtain ⟨Rm, hRm⟩ := RA_of hH1 (p := 61) (Or.inr rfl)
    refine sDo_mono (s_soil12n (d := 10) (x := x) (v := v) (by omega) (kM_43 km).1 hRm gM hx) (fun r2 h2 p hH2 fr2 => ?_)
    obtain ⟨rfl, rfl⟩ := p
    exact ⟨⟨c, ck, m, g, ik, tf, kC_61 (kC_43 kc), kM_61 (kM_43 km), ej, rl, rk⟩, _, rfl, rfl⟩)
theorem pk_worths {Rel : CF → MF → Prop} (ok : relOk Rel) (hB : ∀ c m, Rel c m → RB c m) (x : Int32) (v : Int32) (y : Int32) : pairR (bFL Rel) 128 208 [.int x, .int v, .int y] := pr_mk (c1 := cn_X11_worths_0) (c2 := cn_X12_worths_0) ch_X11_worths_0 ch_X12_worths_0 (by decide +kernel) (by decide +kernel) (by decide +kernel) (by decide +kernel) rfl rfl (fun h hH => ⟨bt0 hH, vI0 x, vI0 v, vI0 y, trivial⟩) (fun h hH => ⟨bt60 hH, vI0 x, vI0 v, vI0 y, trivial⟩) (fun h hH hR => by
  obtain ⟨c, ck, m, g, ik, tf, kc, km, ej, rl, rk⟩ := hR
  have F := kc.1
  have q0 := kc.2.2.1
  obtain ⟨Rc, hRc⟩ := RA_of hH (p := 43) (Or.inl rfl)
  obtain ⟨s, sI, sJ, gF, gM⟩ := RN_sg (ok.2.2.2.2.1 _ _ rl)
  by_cases hx : (0 ≤ x.toInt ∧ x.toInt < (s.2.2 : Int)) ∧ (0 ≤ v.toInt ∧ v.toInt < 6) ∧ 0 ≤ y.toInt ∧ y.toInt < 100
  · have RS := ((hB _ _ rl).2 s sI).1
    have n5 := sI.2.2.2.2.2.2.2
    obtain ⟨i, hi⟩ : ∃ i : Nat, x.toInt = i := ⟨x.toInt.toNat, by omega⟩
    have e_x : x = Int32.ofNat i := Int32.toInt_inj.mp (by rw [hi, ofN_toInt (by omega)])
    subst e_x
    obtain ⟨V, hV⟩ : ∃ V : Nat, v.toInt = V := ⟨v.toInt.toNat, by omega⟩
    have e_v : v = Int32.ofNat V := Int32.toInt_inj.mp (by rw [hV, ofN_toInt (by omega)])
    subst e_v
    obtain ⟨X, hX⟩ : ∃ X : Nat, y.toInt = X := ⟨y.toInt.toNat, by omega⟩
    have e_y : y = Int32.ofNat X := Int32.toInt_inj.mp (by rw [hX, ofN_toInt (by omega)])
    subst e_y
    refine sDo_mono (s_worths11 (d := 10) (N := s.2.2) (i := i) (V := V) (X := X) (by omega) q0 F sI.2.2.1 n5 (by omega) (by omega) (by omega)) (fun r1 h1 p1 hH1 fr1 => ?_)
    obtain ⟨rfl, rfl⟩ := p1
    have F1 := FC_4 (k0 := i) (w := upd (c.2.2.2.2.1 i) V (Int32.ofNat X)) F (by omega)
    have E1 : fE 5 h (h.set (5 + 4 + i) (.inl (0, 6, .inl (upd (c.2.2.2.2.1 i) V (Int32.ofNat X))))) := fE_set fE_rfl (by omega) (by omega)
    have km1 := kM_fE km E1
    refine sDo_mono (s_worths12 (d := 10) (N := s.2.2) (i := i) (V := V) (X := X) (by omega) km1.1 sJ.2.2.1 n5 (by omega) (by omega) (by omega)) (fun r2 h2 p hH2 fr2 => ?_)
    obtain ⟨rfl, rfl⟩ := p
    have M2 := MC_5 (f := upd m.2.2.2.2.2 (6 * i + V) (Int32.ofNat X)) km1.1
    have E2 := mE_set (q := 66) (x := .inl (0, 30, .inl (upd m.2.2.2.2.2 (6 * i + V) (Int32.ofNat X)))) (mE_rfl (h := h.set (5 + 4 + i) (.inl (0, 6, .inl (upd (c.2.2.2.2.1 i) V (Int32.ofNat X)))))) (by decide)
    have rl2 := ok.2.1 c m s (4, i, V, X) rl sI sJ ⟨by omega, by omega, by omega⟩
    exact ⟨⟨_, ck, _, g, ik, tf, kC_mE (kC_5 kc F1 E1) E2, ⟨M2, (E2.2 75 (by decide) (by decide)).trans km1.2⟩, ej, rl2, rk⟩, _, rfl, congrArg (fun z => some (Value.int z)) (RS.2.2.2.1 i (by omega) V (by omega)).symm⟩
  · refine sDo_mono (s_worths11n (d := 10) (x := x) (v := v) (y := y) (by omega) q0 hRc F sI.2.2.1 sI.2.2.2.2.2.2.2 hx) (fun r1 h1 p1 hH1 fr1 => ?_)
    obtain ⟨Rm, hRm⟩ := RA_of hH1 (p := 61) (Or.inr rfl)
    rcases p1 with ⟨k1, rfl, rfl⟩ | ⟨k1, rfl, rfl⟩
    · refine sDo_mono (s_worths12n (d := 10) (x := x) (v := v) (y := y) (by omega) (kM_43 km).1 hRm sJ.2.2.1 sJ.2.2.2.2.2.2.2 hx) (fun r2 h2 p hH2 fr2 => ?_)
      rcases p with ⟨-, rfl, rfl⟩ | ⟨k2, -⟩
      · exact ⟨⟨c, ck, m, g, ik, tf, kC_61 (kC_43 kc), kM_61 (kM_43 km), ej, rl, rk⟩, _, rfl, rfl⟩
      · exact absurd k2 k1
    · refine sDo_mono (s_worths12n (d := 10) (x := x) (v := v) (y := y) (by omega) (kM_43 km).1 hRm sJ.2.2.1 sJ.2.2.2.2.2.2.2 hx) (fun r2 h2 p hH2 fr2 => ?_)
      rcases p with ⟨k2, -⟩ | ⟨-, rfl, rfl⟩
      · exact absurd k1 k2
      · exact ⟨⟨c, ck, m, g, ik, tf, kC_61 (kC_43 kc), kM_61 (kM_43 km), ej, rl, rk⟩, _, rfl, rfl⟩)
theorem pk_fond {Rel : CF → MF → Prop} (ok : relOk Rel) (hB : ∀ c m, Rel c m → RB c m) (hF : relFo Rel) (x : Int32) (b : Int32) (hb : b = 0 ∨ b = 1) : pairR (bFL Rel) 129 209 [.int x, .int b] := pr_mk (c1 := cn_X11_fond_0) (c2 := cn_X12_fond_0) ch_X11_fond_0 ch_X12_fond_0 (by decide +kernel) (by decide +kernel) (by decide +kernel) (by decide +kernel) rfl rfl (fun h hH => ⟨bt0 hH, vI0 x, vZ0 hb, trivial⟩) (fun h hH => ⟨bt60 hH, vI0 x, vZ0 hb, trivial⟩) (fun h hH hR => by
  obtain ⟨c, ck, m, g, ik, tf, kc, km, ej, rl, rk⟩ := hR
  have F := kc.1
  have q0 := kc.2.2.1
  obtain ⟨Rc, hRc⟩ := RA_of hH (p := 43) (Or.inl rfl)
  obtain ⟨s, sI, sJ, gF, gM⟩ := RN_sg (ok.2.2.2.2.1 _ _ rl)
  by_cases hx : 0 ≤ x.toInt ∧ x.toInt < (s.2.2 : Int)
  · have RS := ((hB _ _ rl).2 s sI).1
    have n5 := sI.2.2.2.2.2.2.2
    obtain ⟨i, hi⟩ : ∃ i : Nat, x.toInt = i := ⟨x.toInt.toNat, by omega⟩
    have e_x : x = Int32.ofNat i := Int32.toInt_inj.mp (by rw [hi, ofN_toInt (by omega)])
    subst e_x
    refine sDo_mono (s_fond11 (d := 10) (N := s.2.2) (i := i) (b := b) (by omega) q0 F sI.2.2.1 n5 (by omega) hb) (fun r1 h1 p1 hH1 fr1 => ?_)
    obtain ⟨p1, rfl⟩ := p1
    have F1 := FC_9 (fo := upd c.2.2.2.2.2.1 i b) F
    have E1 : fE 5 h (h.set 14 (.inl (2, 5, .inl (upd c.2.2.2.2.2.1 i b)))) := fE_set fE_rfl (by decide) (by decide)
    have km1 := kM_fE km E1
    have rl2 := hF c m s i b rl sI (by omega) hb
    have ef := (RS.2.2.1 i (by omega)).2
    refine sDo_mono (s_fond12 (d := 10) (N := s.2.2) (i := i) (b := b) (by omega) km1.1 sJ.2.2.1 n5 (by omega) hb) (fun r2 h2 p hH2 fr2 => ?_)
    rcases p with ⟨k2, rfl, rfl⟩ | ⟨k2, rfl, rfl⟩
    · rcases p1 with ⟨-, rfl⟩ | ⟨k1, -⟩
      · have e2 : upd m.2.2.2.2.1 i b = m.2.2.2.2.1 := funext fun j => by
          by_cases w : j = i
          · rw [w, u_at, k2]
          · rw [u_ne w]
        rw [e2] at rl2
        exact ⟨⟨_, ck, m, g, ik, tf, kC_5 kc F1 E1, km1, ej, rl2, rk⟩, _, rfl, rfl⟩
      · exact absurd (ef.trans k2) k1
    · rcases p1 with ⟨k1, -⟩ | ⟨-, rfl⟩
      · exact absurd (ef.symm.trans k1) k2
      · have M2 := MC_4 (f := upd m.2.2.2.2.1 i b) km1.1
        have E2 := mE_set (q := 65) (x := .inl (0, 5, .inl (upd m.2.2.2.2.1 i b))) (mE_rfl (h := h.set 14 (.inl (2, 5, .inl (upd c.2.2.2.2.2.1 i b))))) (by decide)
        exact ⟨⟨_, ck, _, g, ik, tf, kC_mE (kC_5 kc F1 E1) E2, ⟨M2, (E2.2 75 (by decide) (by decide)).trans km1.2⟩, ej, rl2, rk⟩, _, rfl, rfl⟩
  · refine sDo_mono (s_fond11n (d := 10) (x := x) (b := b) (by omega) q0 hRc F sI.2.2.1 sI.2.2.2.2.2.2.2 hx) (fun r1 h1 p1 hH1 fr1 => ?_)
    obtain ⟨rfl, rfl⟩ := p1
    obtain ⟨Rm, hRm⟩ := RA_of hH1 (p := 61) (Or.inr rfl)
    refine sDo_mono (s_fond12n (d := 10) (x := x) (b := b) (by omega) (kM_43 km).1 hRm sJ.2.2.1 sJ.2.2.2.2.2.2.2 hx) (fun r2 h2 p hH2 fr2 => ?_)
    obtain ⟨rfl, rfl⟩ := p
    exact ⟨⟨c, ck, m, g, ik, tf, kC_61 (kC_43 kc), kM_61 (kM_43 km), ej, rl, rk⟩, _, rfl, rfl⟩)
