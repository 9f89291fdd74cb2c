/-! ===== refusal counts: the calls walked by hand ===== -/
theorem vO_vE {h h1 : sHp} (E : vE h h1) : vO h h1 := ⟨E.1, fun q a _ => E.2 q a⟩
theorem tl_n {W n C : Nat} {k : Int} (hc : C < 7000) : ∃ q, q < 10000 ∧ tlS W n C k = Int32.ofNat q := by
  have hab := dg_le (show C / 100 % 10 < 10 by omega) (show C / 10 % 10 < 10 by omega)
  have c0 := cnt_le (sdS W n C 0)
  have c1 := cnt_le (sdS W n C 1)
  have c2 := cnt_le (sdS W n C 2)
  unfold tlS
  by_cases h1 : k = 1
  · rw [if_pos h1]; exact ⟨_, by omega, rfl⟩
  rw [if_neg h1]
  by_cases h2 : k = 2 ∨ k = 6
  · rw [if_pos h2]; exact ⟨_, by omega, rfl⟩
  rw [if_neg h2]
  by_cases h3 : k = 3
  · rw [if_pos h3]; exact ⟨_, by omega, rfl⟩
  rw [if_neg h3]
  by_cases h4 : k = 4
  · rw [if_pos h4]; exact ⟨_, by omega, rfl⟩
  rw [if_neg h4]
  by_cases h5 : k = 5
  · rw [if_pos h5]; exact ⟨_, by omega, rfl⟩
  rw [if_neg h5]
  exact ⟨_, by omega, rfl⟩
theorem ch_n {c : CF} {m : MF} {s : Sg} {i j b : Nat} {k : Int} (hn : s.1 * s.2.1 ≤ 64) (RS : RSs s c m) (hi : i < s.2.2) (hj : j < s.2.2) (hb : b < 7000) : ∃ q, q < 10000 ∧ chV m s.1 (s.1 * s.2.1) i j b k = Int32.ofNat q := by
  have a1 := wV_le (m := m) (x := sdS s.1 (s.1 * s.2.1) b 1) hn RS hj
  have a2 := wV_le (m := m) (x := fsS s.1 (s.1 * s.2.1) b) hn RS hi
  have a3 := wV_le (m := m) (x := fsS s.1 (s.1 * s.2.1) b) hn RS hj
  have a4 := wV_le (m := m) (x := sdS s.1 (s.1 * s.2.1) b 1) hn RS hi
  by_cases h0 : k = 0
  · exact ⟨b, by omega, chV_0 h0⟩
  by_cases t : wV m (s.1 * s.2.1) j (fsS s.1 (s.1 * s.2.1) b) < wV m (s.1 * s.2.1) j (sdS s.1 (s.1 * s.2.1) b 1)
  · rw [chV_y h0 t]
    by_cases h1 : k = 1
    · rw [if_pos h1]; exact ⟨1, by decide, rfl⟩
    rw [if_neg h1]
    by_cases h2 : k = 2
    · rw [if_pos h2]; exact ⟨_, by omega, rfl⟩
    rw [if_neg h2]
    exact ⟨_, by omega, rfl⟩
  · rw [chV_n h0 t]
    by_cases h1 : k = 1
    · rw [if_pos h1]; exact ⟨0, by decide, rfl⟩
    rw [if_neg h1]
    by_cases h2 : k = 2
    · rw [if_pos h2]; exact ⟨_, by omega, rfl⟩
    rw [if_neg h2]
    exact ⟨_, by omega, rfl⟩
/-- refused on neither side, the counts kept -/
theorem se_kept {k1 k2 : Nat} {as : List Value} {h : sHp} {an : Nat → Value} {P : sHp → Prop} (a : sDo 10 k1 (.ref 0 :: as) h (fun _ h' => h'[43]? = h[43]? ∧ P h')) (b : ∀ h1, bH h1 → P h1 → sDo 10 k2 (.ref 60 :: as) h1 (fun _ h' => h'[61]? = h1[61]?)) : sepd an k1 k2 as h := Or.inr ⟨none, rfK_0, fun R r43 => sDo_mono a (fun r h' q => ⟨q.1.trans r43, fun hg Rm g61 => sDo_mono (b h' hg q.2) (fun r2 h2 q2 => q2.trans g61)⟩)⟩
theorem se_says {h : sHp} (hH : bH h) (hR : bR9 h) (a : Int32) (b : Int32) : sepd anN 120 189 [.int a, .int b] h := by
  obtain ⟨⟨hd, so, sz, co, cl, f, gg, q4, bs⟩, c, ck, m, gk, ik, tf, kc, km, ej, rl, rk⟩ := hR
  have F := kc.1
  have h0 := kc.2.2.1
  have M := km.1
  obtain ⟨R, hR43⟩ := RA_of hH (p := 43) (Or.inl rfl)
  obtain ⟨s, sI, sJ, g, gM⟩ := RN_sg rl.1.1
  have n5 := sI.2.2.2.2.2.2.2
  have hn := gdF_n g
  have PO := rl.2 s sI
  have q4' := q4
  obtain ⟨a1, a2, a3, a4, a5, a6, a7, a8⟩ := q4'
  have h3 : ∀ S, S < 8 → hd S = 0 ∨ hd S = 1 ∨ hd S = 2 := fun S hS => hd_3 (bs S hS)
  have hco : ∀ S, S < 8 → hd S = 2 → 0 ≤ (co S).toInt ∧ (co S).toInt < 7000 := fun S hS h2 => by
    obtain ⟨pc, C, -, -, -, hc, hx⟩ := cut_at (bs S hS) h2
    omega
  have rfin : ∀ h1, bH h1 → vE h h1 → ∀ Rm, h1[61]? = some (rFc Rm) → sDo 10 189 [.ref 60, .int a, .int b] h1 (fun r h' => _) := fun h1 hH1 E Rm g61 => s_says12z (d := 10) (s := a) (k := b) (R := Rm) (by omega) (vE_at E M.1 (by decide)) g61 (vE_at E a4 (by decide)) gM (vE_at E a7 (by decide)) h3 hco
  by_cases hS : 0 ≤ a.toInt ∧ a.toInt < 8
  · obtain ⟨S, hs⟩ : ∃ S : Nat, a.toInt = S := ⟨a.toInt.toNat, by omega⟩
    have eS : a.toInt.toNat = S := by omega
    have hno := s_noCutIn (d := 9) (by omega) h0 q4 bs hs (by omega)
    by_cases h2 : hd S = 2
    · obtain ⟨pc, C, -, hg, ha, hc, hx⟩ := cut_at (bs S (by omega)) h2
      have eC : (co S).toInt.toNat = C := by omega
      unfold ncS at hno
      rw [if_pos h2] at hno
      have c1 : ∀ R, h[43]? = some (rFc R) → sDo 10 120 [.ref 0, .int a, .int b] h (fun r h' => _) := fun R r43 => s_says11c (d := 10) (k := b) (R := R) (by omega) h0 F g r43 a3 hs (by omega) hg hc ha hx hno
      by_cases hk : b.toInt < 0 ∨ 6 < b.toInt
      · refine se_yes (X := 1) (v := .int (-1)) (by decide) (fun R r43 => sDo_mono (c1 R r43) (fun r h' q => ?_)) (fun h1 hH1 E Rm g61 => sDo_mono (rfin h1 hH1 E Rm g61) (fun r h' q => ?_))
        · rcases q with ⟨-, rfl, rfl⟩ | ⟨z, -⟩
          · exact ⟨rfl, rfl⟩
          · exact absurd hk z
        · rcases q with ⟨-, rfl, rfl⟩ | ⟨z, -⟩
          · exact ⟨rfl, rfl⟩
          · exact absurd (Or.inr hk) z
      · by_cases hi : isoK (C / 1000) b.toInt
        · obtain ⟨v, hv, ev⟩ := tl_n (W := s.1) (n := s.1 * s.2.1) (k := b.toInt) hc
          refine Or.inl ⟨.int (Int32.ofNat v), sDo_mono (c1 R hR43) (fun r h' q => ?_), ne_anN hv⟩
          rcases q with ⟨z, -⟩ | ⟨-, ⟨z, -⟩ | ⟨-, rfl, rfl⟩⟩
          · exact absurd z hk
          · exact absurd hi z
          · rw [ev]
        · refine se_yes (X := 2) (v := .int (-2)) (by decide) (fun R r43 => sDo_mono (c1 R r43) (fun r h' q => ?_)) (fun h1 hH1 E Rm g61 => sDo_mono (rfin h1 hH1 E Rm g61) (fun r h' q => ?_))
          · rcases q with ⟨z, -⟩ | ⟨-, ⟨-, rfl, rfl⟩ | ⟨z, -⟩⟩
            · exact absurd z hk
            · exact ⟨rfl, rfl⟩
            · exact absurd z hi
          · rw [eS, eC] at q
            rcases q with ⟨z, -⟩ | ⟨-, ⟨z, -⟩ | ⟨z, -⟩ | ⟨-, ⟨-, rfl, rfl⟩ | ⟨z, -⟩⟩⟩
            · exact absurd z (fun z => z.elim (fun y => y hS) hk)
            · rw [h2] at z; exact absurd z (by decide)
            · rw [h2] at z; exact absurd z (by decide)
            · exact ⟨rfl, rfl⟩
            · exact absurd z hi
    · obtain ⟨B, hB, eB⟩ := nc_b (hd := hd) (S := S) (by
        rcases h3 S (by omega) with e | e | e
        · exact Or.inl e
        · exact Or.inr e
        · exact absurd e h2)
      have c1 : ∀ R, h[43]? = some (rFc R) → sDo 10 120 [.ref 0, .int a, .int b] h (fun r h' => _) := fun R r43 => s_says11n (d := 10) (k := b) (R := R) (by omega) h0 r43 eB (by omega) hno
      by_cases hk : b.toInt < 0 ∨ 6 < b.toInt
      · refine se_yes (X := 1) (v := .int (-1)) (by decide) (fun R r43 => sDo_mono (c1 R r43) (fun r h' q => ?_)) (fun h1 hH1 E Rm g61 => sDo_mono (rfin h1 hH1 E Rm g61) (fun r h' q => ?_))
        · rcases q with ⟨-, rfl, rfl⟩ | ⟨z, -⟩
          · exact ⟨rfl, rfl⟩
          · exact absurd (Or.inr hk) z
        · rcases q with ⟨-, rfl, rfl⟩ | ⟨z, -⟩
          · exact ⟨rfl, rfl⟩
          · exact absurd (Or.inr hk) z
      · refine se_yes (X := B) (v := .int (ncS hd S)) (by omega) (fun R r43 => sDo_mono (c1 R r43) (fun r h' q => ?_)) (fun h1 hH1 E Rm g61 => sDo_mono (rfin h1 hH1 E Rm g61) (fun r h' q => ?_))
        · rcases q with ⟨z, -⟩ | ⟨-, rfl, rfl⟩
          · exact absurd z (by omega)
          · exact ⟨rfl, rfl⟩
        · rw [eS] at q
          have nv : hd S = 1 → ncS hd S = -2 ∧ B = 2 := fun e => by
            have e2 : ncS hd S = -2 := by unfold ncS; rw [if_neg h2, if_pos e]
            have e3 : (-2 : Int32).toInt = -2 := rfl
            rw [e2] at eB
            exact ⟨e2, by omega⟩
          have nw : hd S = 0 → ncS hd S = -3 ∧ B = 3 := fun e => by
            have e2 : ncS hd S = -3 := by unfold ncS; rw [if_neg h2, e]; rfl
            have e3 : (-3 : Int32).toInt = -3 := rfl
            rw [e2] at eB
            exact ⟨e2, by omega⟩
          rcases q with ⟨z, -⟩ | ⟨-, ⟨z, rfl, rfl⟩ | ⟨z, rfl, rfl⟩ | ⟨z, -⟩⟩
          · exact absurd z (fun z => z.elim (fun y => y hS) hk)
          · rw [(nv z).1, (nv z).2]; exact ⟨rfl, rfl⟩
          · rw [(nw z).1, (nw z).2]; exact ⟨rfl, rfl⟩
          · exact absurd z h2
  · refine se_yes (X := 1) (v := .int (-1)) (by decide) (fun R r43 => sDo_mono (s_says11n (d := 10) (b := -1) (B := 1) (k := b) (R := R) (by omega) h0 r43 (by decide) (by decide) (s_noCutOX (d := 7) hS)) (fun r h' q => ?_)) (fun h1 hH1 E Rm g61 => sDo_mono (rfin h1 hH1 E Rm g61) (fun r h' q => ?_))
    · rcases q with ⟨-, rfl, rfl⟩ | ⟨z, -⟩
      · exact ⟨rfl, rfl⟩
      · exact absurd (Or.inl rfl) z
    · rcases q with ⟨-, rfl, rfl⟩ | ⟨z, -⟩
      · exact ⟨rfl, rfl⟩
      · exact absurd (Or.inl hS) z
theorem prz_says (a : Int32) (b : Int32) : pairR bR10 120 189 [.int a, .int b] := pr_Z (an := anN) (c1 := cn_X11_says_0) (c2 := cn_X12_says_0) (z1 := cn_X11_says_Z) (z2 := cn_X12_says_Z) (pr9_says a b) ch_X11_says_0 ch_X12_says_0 ch_X11_says_Z ch_X12_says_Z anI_N rfl rfl (by decide +kernel) (by decide +kernel) (by decide +kernel) (by decide +kernel) rfl rfl rfl rfl (fun h hH => ⟨bt0 hH, vI0 a, vI0 b, trivial⟩) (fun h hH => ⟨bt60 hH, vI0 a, vI0 b, trivial⟩) rfl rfl (by decide +kernel) (by decide +kernel) (by decide +kernel) (by decide +kernel) (fun h hH hR => Or.inr (se_says hH hR a b))
theorem se_old {h : sHp} (hH : bH h) (hR : bR9 h) (a : Int32) : sepd anN 149 245 [.int a] h := by
  obtain ⟨⟨hd, so, sz, co, cl, f, gg, q4, bs⟩, c, ck, m, gk, ik, tf, kc, km, ej, rl, rk⟩ := hR
  have F := kc.1
  have h0 := kc.2.2.1
  have M := km.1
  obtain ⟨R, hR43⟩ := RA_of hH (p := 43) (Or.inl rfl)
  obtain ⟨s, sI, sJ, g, gM⟩ := RN_sg rl.1.1
  have n5 := sI.2.2.2.2.2.2.2
  have hn := gdF_n g
  have PO := rl.2 s sI
  obtain ⟨B, S1, S2, fc, ff, s38, s39, s40⟩ := SO_of hH
  have q4' := q4
  obtain ⟨a1, a2, a3, a4, a5, a6, a7, a8⟩ := q4'
  have refd : ∀ (v : Int32) (B : Nat), v.toInt = -(B : Int) → (1 ≤ B ∧ B ≤ 7) → sDo 9 161 [.ref 0, .int a] h (fun r h' => h' = h ∧ r = some (.int v)) → (((0 ≤ a.toInt ∧ a.toInt < 8) ∧ wtS hd a.toInt.toNat 1 = v) ∨ (¬ (0 ≤ a.toInt ∧ a.toInt < 8) ∧ v = -1)) → sepd anN 149 245 [.int a] h := fun v B hb hB hno hx =>
    se_yes (X := B) (v := .int v) hB.2 (fun R r43 => s_old11n (d := 10) (by omega) h0 r43 hb hB hno) (fun h1 hH1 E Rm g61 => s_old12z (d := 10) (by omega) (vE_at E M.1 (by decide)) g61 (vE_at E a4 (by decide)) hb hB hx)
  by_cases hS : 0 ≤ a.toInt ∧ a.toInt < 8
  · obtain ⟨T, hT⟩ : ∃ T : Nat, a.toInt = T := ⟨a.toInt.toNat, by omega⟩
    obtain ⟨ot, z, el, b1, b2, b3⟩ := bs T (by omega)
    have hno := s_noIn (d := 7) (el := el) hH q4 hT (by omega) b1 b3
    rcases hd_3 (bs T (by omega)) with e0 | e1 | e2
    · obtain ⟨B, hB, eB, ew⟩ := nr_b (Or.inl e0)
      exact refd _ B eB hB hno (Or.inl ⟨hS, by rw [show a.toInt.toNat = T by omega]; exact ew⟩)
    · rcases b3 with ⟨e, -⟩ | ⟨-, -, eo, o0, o3, ez, z0, z100, eel⟩ | ⟨e, -⟩
      · rw [e1] at e; exact absurd e (by decide)
      · obtain ⟨n, hnn⟩ : ∃ n : Nat, z.toInt = n := ⟨z.toInt.toNat, by omega⟩
        have hz : z = Int32.ofNat n := Int32.toInt_inj.mp (by rw [hnn, ofN_toInt (by omega)])
        have hno0 : sDo 9 161 [.ref 0, .int a] h (fun r h' => h' = h ∧ r = some (.int 0)) := sDo_mono hno (fun r h' q => ⟨q.1, by rw [q.2]; unfold nrOf; rw [if_pos e1]⟩)
        have RT1 : RT cl T n (tx el n) := ⟨by omega, by omega, fun i hi => by
            unfold tx
            rw [if_pos hi, eel i (by omega)], fun i hi => if_neg (by omega)⟩
        rw [hz] at b1
        have wt0 : ∀ h1, bH h1 → vO h h1 → sDo 9 184 [.ref 60, .int a, .int (Int32.ofInt 1)] h1 (fun r h' => h' = h1 ∧ r = some (.int 0)) := fun h1 hH1 E => sDo_mono (s_wantsE (d := 9) (w := Int32.ofInt 1) (by omega) (vO_at E M.1 (by decide)) (vO_at E a4 (by decide)) (Or.inl rfl)) (fun r h' q => ⟨q.1, by
          rcases q.2 with ⟨-, q2⟩ | ⟨y, -⟩
          · rw [q2]
            unfold wtS
            rw [show a.toInt.toNat = T by omega, e1]
            rfl
          · exact absurd hS y⟩)
        have fl := fcN_ge (W := s.1) (N := s.1 * s.2.1) (T := tx el n) (sz := n) (L := lsT s.1 s.2.1 true true) (n := 0)
        have ll := ls_len (b4 := true) (b32 := true) gM.2.2.2.1 gM.2.2.2.2.2
        exact Or.inl ⟨_, sDo_mono (s_old11c (d := 10) (by omega) h0 F g a1 hT (by omega) (a2 T (by omega)) (by omega) b1 b2 (by omega) s38 s39 s40 hno0) (fun r h' q => q.1), ne_anN (by omega)⟩
      · rw [e1] at e; exact absurd e (by decide)
    · obtain ⟨B, hB, eB, ew⟩ := nr_b (Or.inr e2)
      exact refd _ B eB hB hno (Or.inl ⟨hS, by rw [show a.toInt.toNat = T by omega]; exact ew⟩)
  · exact refd (-1) 1 (by decide) (by decide) (s_noOut (d := 7) hS) (Or.inr ⟨hS, rfl⟩)
theorem prz_old (a : Int32) : pairR bR10 149 245 [.int a] := pr_Z (an := anN) (c1 := cn_X11_old_0) (c2 := cn_X12_old_0) (z1 := cn_X11_old_Z) (z2 := cn_X12_old_Z) (pr9_old a) ch_X11_old_0 ch_X12_old_0 ch_X11_old_Z ch_X12_old_Z anI_N rfl rfl (by decide +kernel) (by decide +kernel) (by decide +kernel) (by decide +kernel) rfl rfl rfl rfl (fun h hH => ⟨bt0 hH, vI0 a, trivial⟩) (fun h hH => ⟨bt60 hH, vI0 a, trivial⟩) rfl rfl (by decide +kernel) (by decide +kernel) (by decide +kernel) (by decide +kernel) (fun h hH hR => Or.inr (se_old hH hR a))
theorem se_sure {h : sHp} (hH : bH h) (hR : bR9 h) (a : Int32) (b : Int32) : sepd anL 150 246 [.int a, .int b] h := by
  obtain ⟨⟨hd, so, sz, co, cl, f, gg, q4, bs⟩, c, ck, m, gk, ik, tf, kc, km, ej, rl, rk⟩ := hR
  have F := kc.1
  have h0 := kc.2.2.1
  have M := km.1
  obtain ⟨R, hR43⟩ := RA_of hH (p := 43) (Or.inl rfl)
  obtain ⟨s, sI, sJ, g, gM⟩ := RN_sg rl.1.1
  have n5 := sI.2.2.2.2.2.2.2
  have hn := gdF_n g
  have PO := rl.2 s sI
  obtain ⟨B, S1, S2, fc, ff, s38, s39, s40⟩ := SO_of hH
  have q4' := q4
  obtain ⟨a1, a2, a3, a4, a5, a6, a7, a8⟩ := q4'
  have refd : ∀ (v : Int32) (B : Nat), v.toInt = -(B : Int) → (1 ≤ B ∧ B ≤ 7) → sDo 9 161 [.ref 0, .int a] h (fun r h' => h' = h ∧ r = some (.int v)) → (((0 ≤ a.toInt ∧ a.toInt < 8) ∧ wtS hd a.toInt.toNat 1 = v) ∨ (¬ (0 ≤ a.toInt ∧ a.toInt < 8) ∧ v = -1)) → sepd anL 150 246 [.int a, .int b] h := fun v B hb hB hno hx =>
    se_yes (X := B) (v := .long v.toInt64) hB.2 (fun R r43 => s_sure11n (y := b) (d := 10) (by omega) h0 r43 hb hB hno) (fun h1 hH1 E Rm g61 => s_sure12z (y := b) (d := 10) (by omega) (vE_at E M.1 (by decide)) g61 (vE_at E a4 (by decide)) hb hB hx)
  by_cases hS : 0 ≤ a.toInt ∧ a.toInt < 8
  · obtain ⟨T, hT⟩ : ∃ T : Nat, a.toInt = T := ⟨a.toInt.toNat, by omega⟩
    obtain ⟨ot, z, el, b1, b2, b3⟩ := bs T (by omega)
    have hno := s_noIn (d := 7) (el := el) hH q4 hT (by omega) b1 b3
    rcases hd_3 (bs T (by omega)) with e0 | e1 | e2
    · obtain ⟨B, hB, eB, ew⟩ := nr_b (Or.inl e0)
      exact refd _ B eB hB hno (Or.inl ⟨hS, by rw [show a.toInt.toNat = T by omega]; exact ew⟩)
    · rcases b3 with ⟨e, -⟩ | ⟨-, -, eo, o0, o3, ez, z0, z100, eel⟩ | ⟨e, -⟩
      · rw [e1] at e; exact absurd e (by decide)
      · obtain ⟨n, hnn⟩ : ∃ n : Nat, z.toInt = n := ⟨z.toInt.toNat, by omega⟩
        have hz : z = Int32.ofNat n := Int32.toInt_inj.mp (by rw [hnn, ofN_toInt (by omega)])
        have hno0 : sDo 9 161 [.ref 0, .int a] h (fun r h' => h' = h ∧ r = some (.int 0)) := sDo_mono hno (fun r h' q => ⟨q.1, by rw [q.2]; unfold nrOf; rw [if_pos e1]⟩)
        have RT1 : RT cl T n (tx el n) := ⟨by omega, by omega, fun i hi => by
            unfold tx
            rw [if_pos hi, eel i (by omega)], fun i hi => if_neg (by omega)⟩
        rw [hz] at b1
        have wt0 : ∀ h1, bH h1 → vO h h1 → sDo 9 184 [.ref 60, .int a, .int (Int32.ofInt 1)] h1 (fun r h' => h' = h1 ∧ r = some (.int 0)) := fun h1 hH1 E => sDo_mono (s_wantsE (d := 9) (w := Int32.ofInt 1) (by omega) (vO_at E M.1 (by decide)) (vO_at E a4 (by decide)) (Or.inl rfl)) (fun r h' q => ⟨q.1, by
          rcases q.2 with ⟨-, q2⟩ | ⟨y, -⟩
          · rw [q2]
            unfold wtS
            rw [show a.toInt.toNat = T by omega, e1]
            rfl
          · exact absurd hS y⟩)
        have k1 : ∀ R, h[43]? = some (rFc R) → sDo 10 150 [.ref 0, .int a, .int b] h (fun r h' => _) := fun R r43 => s_sure11c (d := 10) (y := b) (R := R) (by omega) h0 F g r43 a1 hT (by omega) (a2 T (by omega)) (by omega) b1 b2 (by omega) s38 s39 s40 hno0
        have k2 : ∀ h1, bH h1 → vE h h1 → ∀ Rm, h1[61]? = some (rFc Rm) → sDo 10 246 [.ref 60, .int a, .int b] h1 (fun r h' => _) := fun h1 hH1 E Rm g61 => by
          obtain ⟨fc1, f76, -, -⟩ := bA60 hH1 (p := 76) (by decide) rfl
          exact s_sure12cz (d := 10) (y := b) (R := Rm) (by omega) (vE_at E M.1 (by decide)) gM hT (by omega) (vE_at E a6 (by decide)) (vE_at E a8 (by decide)) (by rw [← ez, hz]) RT1 g61 (wt0 h1 hH1 (vO_vE E)) f76
        by_cases hy : b.toInt < 0 ∨ 1 < b.toInt
        · refine se_yes (X := 5) (v := .long (-5 : Int32).toInt64) (by decide) (fun R r43 => sDo_mono (k1 R r43) (fun r h' q => ?_)) (fun h1 hH1 E Rm g61 => sDo_mono (k2 h1 hH1 E Rm g61) (fun r h' q => ?_))
          · rcases q with ⟨-, q1, q2⟩ | ⟨q1, -⟩
            · exact ⟨q1, q2⟩
            · exact absurd hy q1
          · rcases q with ⟨-, q1, q2⟩ | ⟨q1, -⟩
            · exact ⟨q1, q2⟩
            · exact absurd hy q1
        · refine Or.inr ⟨none, rfK_0, fun R r43 => sDo_mono (k1 R r43) (fun r h' q => ?_)⟩
          rcases q with ⟨q1, -⟩ | ⟨-, -, q2⟩
          · exact absurd q1 hy
          · refine ⟨(q2.2 43 (by decide)).trans r43, fun hg Rm g61 => sDo_mono (k2 h' hg ⟨q2.1, fun q hq => q2.2 q (by omega)⟩ Rm g61) (fun r2 h2 p => ?_)⟩
            rcases p with ⟨q1, -⟩ | ⟨-, -, p2⟩
            · exact absurd q1 hy
            · exact p2
      · rw [e1] at e; exact absurd e (by decide)
    · obtain ⟨B, hB, eB, ew⟩ := nr_b (Or.inr e2)
      exact refd _ B eB hB hno (Or.inl ⟨hS, by rw [show a.toInt.toNat = T by omega]; exact ew⟩)
  · exact refd (-1) 1 (by decide) (by decide) (s_noOut (d := 7) hS) (Or.inr ⟨hS, rfl⟩)
theorem prz_sure (a : Int32) (b : Int32) : pairR bR10 150 246 [.int a, .int b] := pr_Z (an := anL) (c1 := cn_X11_sure_0) (c2 := cn_X12_sure_0) (z1 := cn_X11_sure_Z) (z2 := cn_X12_sure_Z) (pr9_sure a b) ch_X11_sure_0 ch_X12_sure_0 ch_X11_sure_Z ch_X12_sure_Z anI_L rfl rfl (by decide +kernel) (by decide +kernel) (by decide +kernel) (by decide +kernel) rfl rfl rfl rfl (fun h hH => ⟨bt0 hH, vI0 a, vI0 b, trivial⟩) (fun h hH => ⟨bt60 hH, vI0 a, vI0 b, trivial⟩) rfl rfl (by decide +kernel) (by decide +kernel) (by decide +kernel) (by decide +kernel) (fun h hH hR => Or.inr (se_sure hH hR a b))
theorem se_owners {h : sHp} (hH : bH h) (hR : bR9 h) (a : Int32) : sepd anN 135 218 [.int a] h := by
  obtain ⟨⟨hd, so, sz, co, cl, f, gg, q4, bs⟩, c, ck, m, gk, ik, tf, kc, km, ej, rl, rk⟩ := hR
  have F := kc.1
  have h0 := kc.2.2.1
  have M := km.1
  obtain ⟨R, hR43⟩ := RA_of hH (p := 43) (Or.inl rfl)
  obtain ⟨s, sI, sJ, g, gM⟩ := RN_sg rl.1.1
  have n5 := sI.2.2.2.2.2.2.2
  have hn := gdF_n g
  have PO := rl.2 s sI
  obtain ⟨T4, s42⟩ : ∃ T : Nat → Int64, h[42]? = some (.inl (1, 7, .inr (.inl T))) := bA60L hH (p := 42) (by decide) rfl
  have q4' := q4
  obtain ⟨a1, a2, a3, a4, a5, a6, a7, a8⟩ := q4'
  have refd : ∀ (v : Int32) (B : Nat), v.toInt = -(B : Int) → (1 ≤ B ∧ B ≤ 7) → sDo 9 161 [.ref 0, .int a] h (fun r h' => h' = h ∧ r = some (.int v)) → (((0 ≤ a.toInt ∧ a.toInt < 8) ∧ wtS hd a.toInt.toNat 1 = v) ∨ (¬ (0 ≤ a.toInt ∧ a.toInt < 8) ∧ v = -1)) → sepd anN 135 218 [.int a] h := fun v B hb hB hno hx =>
    se_yes (X := B) (v := .int v) hB.2 (fun R r43 => s_ows11n (d := 10) (by omega) h0 r43 hb hB hno) (fun h1 hH1 E Rm g61 => s_ows12n (d := 10) (by omega) (MC_vE M E) g61 hb hB (sDo_mono (s_wantsE (d := 9) (w := Int32.ofInt 1) (by omega) (vE_at E M.1 (by decide)) (vE_at E a4 (by decide)) (Or.inl rfl)) (fun r h' q => ⟨q.1, by
      rcases q.2 with ⟨y, q2⟩ | ⟨y, q2⟩
      · rcases hx with ⟨-, x⟩ | ⟨x, -⟩
        · rw [q2, ← x]; rfl
        · exact absurd y x
      · rcases hx with ⟨x, -⟩ | ⟨-, x⟩
        · exact absurd x y
        · rw [q2, x]⟩)))
  by_cases hS : 0 ≤ a.toInt ∧ a.toInt < 8
  · obtain ⟨T, hT⟩ : ∃ T : Nat, a.toInt = T := ⟨a.toInt.toNat, by omega⟩
    obtain ⟨ot, z, el, b1, b2, b3⟩ := bs T (by omega)
    have hno := s_noIn (d := 7) (el := el) hH q4 hT (by omega) b1 b3
    rcases hd_3 (bs T (by omega)) with e0 | e1 | e2
    · obtain ⟨B, hB, eB, ew⟩ := nr_b (Or.inl e0)
      exact refd _ B eB hB hno (Or.inl ⟨hS, by rw [show a.toInt.toNat = T by omega]; exact ew⟩)
    · rcases b3 with ⟨e, -⟩ | ⟨-, -, eo, o0, o3, ez, z0, z100, eel⟩ | ⟨e, -⟩
      · rw [e1] at e; exact absurd e (by decide)
      · obtain ⟨n, hnn⟩ : ∃ n : Nat, z.toInt = n := ⟨z.toInt.toNat, by omega⟩
        have hz : z = Int32.ofNat n := Int32.toInt_inj.mp (by rw [hnn, ofN_toInt (by omega)])
        have hno0 : sDo 9 161 [.ref 0, .int a] h (fun r h' => h' = h ∧ r = some (.int 0)) := sDo_mono hno (fun r h' q => ⟨q.1, by rw [q.2]; unfold nrOf; rw [if_pos e1]⟩)
        have RT1 : RT cl T n (tx el n) := ⟨by omega, by omega, fun i hi => by
            unfold tx
            rw [if_pos hi, eel i (by omega)], fun i hi => if_neg (by omega)⟩
        rw [hz] at b1
        have wt0 : ∀ h1, bH h1 → vO h h1 → sDo 9 184 [.ref 60, .int a, .int (Int32.ofInt 1)] h1 (fun r h' => h' = h1 ∧ r = some (.int 0)) := fun h1 hH1 E => sDo_mono (s_wantsE (d := 9) (w := Int32.ofInt 1) (by omega) (vO_at E M.1 (by decide)) (vO_at E a4 (by decide)) (Or.inl rfl)) (fun r h' q => ⟨q.1, by
          rcases q.2 with ⟨-, q2⟩ | ⟨y, -⟩
          · rw [q2]
            unfold wtS
            rw [show a.toInt.toNat = T by omega, e1]
            rfl
          · exact absurd hS y⟩)
        exact se_kept (P := vO h) (sDo_mono (s_ows11 (d := 10) (by omega) h0 F g sI a1 hT (by omega) (a2 T (by omega)) b1 b2 (by omega) s42 hno0) (fun r h' q => ⟨by rw [q.2, s_set_ne (by decide), s_set_ne (by decide)], by rw [q.2]; exact vO_15 (vO_43 vO_rfl (by decide))⟩)) (fun h1 hH1 E => sDo_mono (s_ows12 (d := 10) (by omega) (MC_vO M E) gM sJ (vO_at E a6 (by decide)) (vO_at E a8 (by decide)) hT (by omega) (by rw [← ez, hz]) (by omega) RT1 (wt0 h1 hH1 E)) (fun r h' q => by rw [q.2, s_set_ne (by decide)]))
      · rw [e1] at e; exact absurd e (by decide)
    · obtain ⟨B, hB, eB, ew⟩ := nr_b (Or.inr e2)
      exact refd _ B eB hB hno (Or.inl ⟨hS, by rw [show a.toInt.toNat = T by omega]; exact ew⟩)
  · exact refd (-1) 1 (by decide) (by decide) (s_noOut (d := 7) hS) (Or.inr ⟨hS, rfl⟩)
theorem prz_owners (a : Int32) : pairR bR10 135 218 [.int a] := pr_Z (an := anN) (c1 := cn_X11_owners_0) (c2 := cn_X12_owners_0) (z1 := cn_X11_owners_Z) (z2 := cn_X12_owners_Z) (pr9_owners a) ch_X11_owners_0 ch_X12_owners_0 ch_X11_owners_Z ch_X12_owners_Z anI_N rfl rfl (by decide +kernel) (by decide +kernel) (by decide +kernel) (by decide +kernel) rfl rfl rfl rfl (fun h hH => ⟨bt0 hH, vI0 a, trivial⟩) (fun h hH => ⟨bt60 hH, vI0 a, trivial⟩) rfl rfl (by decide +kernel) (by decide +kernel) (by decide +kernel) (by decide +kernel) (fun h hH hR => Or.inr (se_owners hH hR a))
theorem se_lay {h : sHp} (hH : bH h) (hR : bR9 h) (a : Int32) (b : Int32) (x : Int32) : sepd anN 134 217 [.int a, .int b, .int x] h := by
  obtain ⟨⟨hd, so, sz, co, cl, f, gg, q4, bs⟩, c, ck, m, gk, ik, tf, kc, km, ej, rl, rk⟩ := hR
  have F := kc.1
  have h0 := kc.2.2.1
  have M := km.1
  obtain ⟨R, hR43⟩ := RA_of hH (p := 43) (Or.inl rfl)
  obtain ⟨s, sI, sJ, g, gM⟩ := RN_sg rl.1.1
  have n5 := sI.2.2.2.2.2.2.2
  have hn := gdF_n g
  have PO := rl.2 s sI
  obtain ⟨T, s42⟩ : ∃ T : Nat → Int64, h[42]? = some (.inl (1, 7, .inr (.inl T))) := bA60L hH (p := 42) (by decide) rfl
  have q4' := q4
  obtain ⟨a1, a2, a3, a4, a5, a6, a7, a8⟩ := q4'
  have refd : ∀ (v : Int32) (B : Nat), sDo 9 162 [.ref 0, .int a] h (fun r h' => h' = h ∧ r = some (.int v)) → ((0 ≤ a.toInt ∧ a.toInt < 8) → ∀ h1, bH h1 → vO h h1 → sDo 9 184 [.ref 60, .int a, .int (Int32.ofInt 2)] h1 (fun r h' => h' = h1 ∧ r = some (.int v))) → (v.toInt = -1 ↔ ¬ (0 ≤ a.toInt ∧ a.toInt < 8)) → B ≤ 7 → ((v.toInt = -1 ∨ ¬ (∃ k, okO s.2.2 b k) ∨ ¬ (∃ k, okO s.2.2 x k)) ∧ B = 1 ∨ (¬ v.toInt = -1 ∧ (∃ k, okO s.2.2 b k) ∧ (∃ k, okO s.2.2 x k)) ∧ v.toInt = -(B : Int) ∧ 1 ≤ B ∧ B ≤ 7) → sepd anN 134 217 [.int a, .int b, .int x] h := fun v B hno wt hb hB7 hx =>
    se_yes (X := B) (v := .int (-(Int32.ofNat B))) hB7 (fun R r43 => sDo_mono (s_lay11n (d := 10) (by omega) h0 r43 F sI hno hx) (fun r h' q => by
      obtain ⟨⟨v, e, rfl⟩, rfl⟩ := q
      exact ⟨by rw [negB_of hB7 e], rfl⟩)) (fun h1 hH1 E Rm g61 => sDo_mono (s_lay12n (B := B) (d := 10) (by omega) (MC_vE M E) g61 sJ (fun z => wt z h1 hH1 (vO_vE E)) (by
      rcases hx with ⟨y, e⟩ | ⟨y, e⟩
      · exact Or.inl ⟨y.imp hb.mp id, e⟩
      · exact Or.inr ⟨⟨Classical.byContradiction (fun z => y.1 (hb.mpr z)), y.2⟩, e⟩)) (fun r h' q => by
      obtain ⟨⟨v, e, rfl⟩, rfl⟩ := q
      exact ⟨by rw [negB_of hB7 e], rfl⟩))
  have em : (-1 : Int32).toInt = -1 := rfl
  by_cases hS : 0 ≤ a.toInt ∧ a.toInt < 8
  · obtain ⟨S, hs⟩ : ∃ S : Nat, a.toInt = S := ⟨a.toInt.toNat, by omega⟩
    have hno := s_noCutIn (d := 9) (by omega) h0 q4 bs hs (by omega)
    have wt : ∀ h1, bH h1 → vO h h1 → sDo 9 184 [.ref 60, .int a, .int (Int32.ofInt 2)] h1 (fun r h' => h' = h1 ∧ r = some (.int (ncS hd S))) := fun h1 hH1 E => sDo_mono (s_wantsE (d := 9) (w := Int32.ofInt 2) (by omega) (vO_at E M.1 (by decide)) (vO_at E a4 (by decide)) (Or.inr rfl)) (fun r h' q => ⟨q.1, by
      rcases q.2 with ⟨-, q2⟩ | ⟨y, -⟩
      · rw [q2, show a.toInt.toNat = S by omega]
        unfold wtS ncS
        rcases hd_3 (bs S (by omega)) with e | e | e
        · rw [e]; rfl
        · rw [e]; rfl
        · rw [e]; rfl
      · exact absurd hS y⟩)
    by_cases h2 : hd S = 2
    · obtain ⟨pc, C, hpc, hg, ha, hc, hx⟩ := cut_at (bs S (by omega)) h2
      have e0 : ncS hd S = 0 := by unfold ncS; rw [if_pos h2]
      rw [e0] at hno wt
      by_cases ho : (∃ k, okO s.2.2 b k) ∧ (∃ k, okO s.2.2 x k)
      · obtain ⟨⟨k1, o1⟩, ⟨k2, o2⟩⟩ := ho
        exact se_kept (P := vO h) (sDo_mono (s_lay11 (d := 10) (by omega) h0 F g sI a3 hs (by omega) hg hc ha hpc hx hno o1 o2 s42) (fun r h' q => ⟨by rw [q.2, s_set_ne (by decide), s_set_ne (by decide)], by rw [q.2]; exact vO_15 (vO_43 vO_rfl (by decide))⟩)) (fun h1 hH1 E => sDo_mono (s_lay12 (d := 10) (by omega) (MC_vO M E) gM sJ (vO_at E a7 (by decide)) hs (by omega) hx hc (wt h1 hH1 E) ⟨k1, o1⟩ ⟨k2, o2⟩) (fun r h' q => by rw [q.2, s_set_ne (by decide)]))
      · refine refd 0 1 hno (fun _ h1 hH1 E => wt h1 hH1 E) ⟨fun z => absurd z (by decide), fun z => absurd hS z⟩ (by decide) (Or.inl ⟨Or.inr (Classical.byContradiction (fun z => ho ⟨Classical.byContradiction (fun y => z (Or.inl y)), Classical.byContradiction (fun y => z (Or.inr y))⟩)), rfl⟩)
    · obtain ⟨B, hB, eB⟩ := nc_b (hd := hd) (S := S) (by
        rcases hd_3 (bs S (by omega)) with e | e | e
        · exact Or.inl e
        · exact Or.inr e
        · exact absurd e h2)
      have hb1 : (ncS hd S).toInt = -1 ↔ ¬ (0 ≤ a.toInt ∧ a.toInt < 8) := ⟨fun z => by omega, fun z => absurd hS z⟩
      by_cases ho : (∃ k, okO s.2.2 b k) ∧ (∃ k, okO s.2.2 x k)
      · exact refd _ B hno (fun _ h1 hH1 E => wt h1 hH1 E) hb1 (by omega) (Or.inr ⟨⟨by omega, ho.1, ho.2⟩, eB, by omega, by omega⟩)
      · exact refd _ 1 hno (fun _ h1 hH1 E => wt h1 hH1 E) hb1 (by decide) (Or.inl ⟨Or.inr (Classical.byContradiction (fun z => ho ⟨Classical.byContradiction (fun y => z (Or.inl y)), Classical.byContradiction (fun y => z (Or.inr y))⟩)), rfl⟩)
  · exact refd (-1) 1 (s_noCutOX (d := 7) hS) (fun z => absurd z hS) ⟨fun _ => hS, fun _ => em⟩ (by decide) (Or.inl ⟨Or.inl em, rfl⟩)
theorem prz_lay (a : Int32) (b : Int32) (x : Int32) : pairR bR10 134 217 [.int a, .int b, .int x] := pr_Z (an := anN) (c1 := cn_X11_lay_0) (c2 := cn_X12_lay_0) (z1 := cn_X11_lay_Z) (z2 := cn_X12_lay_Z) (pr9_lay a b x) ch_X11_lay_0 ch_X12_lay_0 ch_X11_lay_Z ch_X12_lay_Z anI_N rfl rfl (by decide +kernel) (by decide +kernel) (by decide +kernel) (by decide +kernel) rfl rfl rfl rfl (fun h hH => ⟨bt0 hH, vI0 a, vI0 b, vI0 x, trivial⟩) (fun h hH => ⟨bt60 hH, vI0 a, vI0 b, vI0 x, trivial⟩) rfl rfl (by decide +kernel) (by decide +kernel) (by decide +kernel) (by decide +kernel) (fun h hH hR => Or.inr (se_lay hH hR a b x))
theorem se_choose {h : sHp} (hH : bH h) (hR : bR9 h) (a : Int32) (b : Int32) (x : Int32) : sepd anN 143 237 [.int a, .int b, .int x] h := by
  obtain ⟨⟨hd, so, sz, co, cl, f, gg, q4, bs⟩, c, ck, m, gk, ik, tf, kc, km, ej, rl, rk⟩ := hR
  have F := kc.1
  have h0 := kc.2.2.1
  have M := km.1
  obtain ⟨R, hR43⟩ := RA_of hH (p := 43) (Or.inl rfl)
  obtain ⟨s, sI, sJ, g, gM⟩ := RN_sg rl.1.1
  have n5 := sI.2.2.2.2.2.2.2
  have hn := gdF_n g
  have PO := rl.2 s sI
  by_cases hx : (0 ≤ a.toInt ∧ a.toInt < (s.2.2 : Int)) ∧ (0 ≤ b.toInt ∧ b.toInt < (s.2.2 : Int))
  · by_cases hw : 0 ≤ x.toInt ∧ x.toInt ≤ 3
    · by_cases he : a.toInt = b.toInt
      · exact se_yes (X := 6) (by decide) (fun R r43 => s_choose11_6 (d := 10) (by omega) h0 r43 F sI hx hw he) (fun h1 hH1 E Rm g61 => s_choose12_6 (d := 10) (by omega) (MC_vE M E) g61 sJ hx hw he)
      · obtain ⟨i, hi⟩ : ∃ i : Nat, a.toInt = i := ⟨a.toInt.toNat, by omega⟩
        have ex : a = Int32.ofNat i := Int32.toInt_inj.mp (by rw [hi, ofN_toInt (by omega)])
        obtain ⟨j, hj⟩ : ∃ j : Nat, b.toInt = j := ⟨b.toInt.toNat, by omega⟩
        have ey : b = Int32.ofNat j := Int32.toInt_inj.mp (by rw [hj, ofN_toInt (by omega)])
        subst ex
        subst ey
        have RS := (rl.1.2 s sI).1
        obtain ⟨b, l, hfin⟩ := fin_some (ap := (apW m s.1 (s.1 * s.2.1) i)) (W := s.1) (H := s.2.1) sI.2.2.2.1
        have hb := chI_F (ap := (apW m s.1 (s.1 * s.2.1) i)) (L := (lsT s.1 s.2.1 true false)) (o := none) (fun _ _ z => by cases z) (fun C hC => ⟨apN_le (wV_le hn.1 RS (by omega)) (wV_le hn.1 RS (by omega)), ls_k2 gM.2.2.2.1 gM.2.2.2.2.2 C hC⟩) b l hfin
        obtain ⟨B, S1, S2, fc, ff, s38, s39, s40⟩ := SO_of2 hH
        obtain ⟨v, hv, ev⟩ := ch_n (m := m) (i := i) (j := j) (b := b) (k := x.toInt) hn.1 RS (by omega) (by omega) hb.2.1
        exact Or.inl ⟨.int (Int32.ofNat v), sDo_mono (s_choose11 (d := 10) (by omega) h0 F g rl.1 sI (by omega) (by omega) (by omega) hw s38 s39 s40 hfin hb.2) (fun r h' q => by rw [← ev]; exact q.1), ne_anN hv⟩
    · exact se_yes (X := 5) (by decide) (fun R r43 => s_choose11_5 (d := 10) (by omega) h0 r43 F sI hx hw) (fun h1 hH1 E Rm g61 => s_choose12_5 (d := 10) (by omega) (MC_vE M E) g61 sJ hx hw)
  · exact se_yes (X := 1) (by decide) (fun R r43 => s_choose11_1 (d := 10) (by omega) h0 r43 F sI hx) (fun h1 hH1 E Rm g61 => s_choose12_1 (d := 10) (by omega) (MC_vE M E) g61 sJ hx)
theorem prz_choose (a : Int32) (b : Int32) (x : Int32) : pairR bR10 143 237 [.int a, .int b, .int x] := pr_Z (an := anN) (c1 := cn_X11_choose_0) (c2 := cn_X12_choose_0) (z1 := cn_X11_choose_Z) (z2 := cn_X12_choose_Z) (pr9_choose a b x) ch_X11_choose_0 ch_X12_choose_0 ch_X11_choose_Z ch_X12_choose_Z anI_N rfl rfl (by decide +kernel) (by decide +kernel) (by decide +kernel) (by decide +kernel) rfl rfl rfl rfl (fun h hH => ⟨bt0 hH, vI0 a, vI0 b, vI0 x, trivial⟩) (fun h hH => ⟨bt60 hH, vI0 a, vI0 b, vI0 x, trivial⟩) rfl rfl (by decide +kernel) (by decide +kernel) (by decide +kernel) (by decide +kernel) (fun h hH hR => Or.inr (se_choose hH hR a b x))
theorem se_two {h : sHp} (hH : bH h) (hR : bR9 h) (a : Int32) : sepd anN 141 235 [.int a] h := by
  obtain ⟨⟨hd, so, sz, co, cl, f, gg, q4, bs⟩, c, ck, m, gk, ik, tf, kc, km, ej, rl, rk⟩ := hR
  have F := kc.1
  have h0 := kc.2.2.1
  have M := km.1
  obtain ⟨R, hR43⟩ := RA_of hH (p := 43) (Or.inl rfl)
  obtain ⟨s, sI, sJ, g, gM⟩ := RN_sg rl.1.1
  have n5 := sI.2.2.2.2.2.2.2
  have hn := gdF_n g
  have PO := rl.2 s sI
  obtain ⟨B, S1, S2, fc, ff, s38, s39, s40⟩ := SO_of2 hH
  obtain ⟨T, s41⟩ := trial_of hH
  by_cases hx : s.2.2 = 2 ∧ 0 ≤ a.toInt ∧ a.toInt ≤ 2
  · exact Or.inr ⟨oT (twL m s (lsT s.1 s.2.1 true false) (none, 1000)), oT_K, fun R r43 => sDo_mono (s_two11z (d := 10) (m := m) (by omega) h0 r43 F g rl.1 sI s38 s39 s40 s41 hx.1 hx.2) (fun r h1 q => ⟨q.2, fun hH1 Rm g61 => by
      obtain ⟨fc1, f76, -, -⟩ := bA60 hH1 (p := 76) (by decide) rfl
      obtain ⟨sp1, f77, -, -⟩ := bA60 hH1 (p := 77) (by decide) rfl
      exact s_two12z (d := 10) (by omega) (MC_vE M q.1) g61 gM g rl.1 sI sJ f76 f77 hx.1 hx.2⟩)⟩
  · exact Or.inr ⟨some 5, rfK_1 (by decide), fun R r43 => sDo_mono (s_two11nz (d := 10) (by omega) h0 r43 F g sI s38 s39 s40 s41 hx) (fun r h1 q => ⟨q.2, fun hH1 Rm g61 => s_two12nz (d := 10) (by omega) (MC_vE M q.1) g61 sJ hx⟩)⟩
theorem prz_two (a : Int32) : pairR bR10 141 235 [.int a] := pr_Z (an := anN) (c1 := cn_X11_two_0) (c2 := cn_X12_two_0) (z1 := cn_X11_two_Z) (z2 := cn_X12_two_Z) (pr9_two a) ch_X11_two_0 ch_X12_two_0 ch_X11_two_Z ch_X12_two_Z anI_N rfl rfl (by decide +kernel) (by decide +kernel) (by decide +kernel) (by decide +kernel) rfl rfl rfl rfl (fun h hH => ⟨bt0 hH, vI0 a, trivial⟩) (fun h hH => ⟨bt60 hH, vI0 a, trivial⟩) rfl rfl (by decide +kernel) (by decide +kernel) (by decide +kernel) (by decide +kernel) (fun h hH hR => Or.inr (se_two hH hR a))
theorem se_three {h : sHp} (hH : bH h) (hR : bR9 h) (a : Int32) : sepd anN 142 236 [.int a] h := by
  obtain ⟨⟨hd, so, sz, co, cl, f, gg, q4, bs⟩, c, ck, m, gk, ik, tf, kc, km, ej, rl, rk⟩ := hR
  have F := kc.1
  have h0 := kc.2.2.1
  have M := km.1
  obtain ⟨R, hR43⟩ := RA_of hH (p := 43) (Or.inl rfl)
  obtain ⟨s, sI, sJ, g, gM⟩ := RN_sg rl.1.1
  have n5 := sI.2.2.2.2.2.2.2
  have hn := gdF_n g
  have PO := rl.2 s sI
  obtain ⟨B, S1, S2, fc, ff, s38, s39, s40⟩ := SO_of2 hH
  obtain ⟨T, s41⟩ := trial_of hH
  by_cases hx : s.2.2 = 3 ∧ 0 ≤ a.toInt ∧ a.toInt ≤ 2
  · exact Or.inr ⟨oT (thL m s (lsT s.1 s.2.1 false true) (lsT s.1 s.2.1 false true) (none, 1000)), oT_K, fun R r43 => sDo_mono (s_three11z (d := 10) (m := m) (by omega) h0 r43 F g rl.1 sI s38 s39 s40 s41 hx.1 hx.2) (fun r h1 q => ⟨q.2, fun hH1 Rm g61 => by
      obtain ⟨fc1, f76, -, -⟩ := bA60 hH1 (p := 76) (by decide) rfl
      obtain ⟨sp1, f77, -, -⟩ := bA60 hH1 (p := 77) (by decide) rfl
      exact s_three12z (d := 10) (by omega) (MC_vE M q.1) g61 gM g rl.1 sI sJ f76 f77 hx.1 hx.2⟩)⟩
  · exact Or.inr ⟨some 5, rfK_1 (by decide), fun R r43 => sDo_mono (s_three11nz (d := 10) (by omega) h0 r43 F g sI s38 s39 s40 s41 hx) (fun r h1 q => ⟨q.2, fun hH1 Rm g61 => s_three12nz (d := 10) (by omega) (MC_vE M q.1) g61 sJ hx⟩)⟩
theorem prz_three (a : Int32) : pairR bR10 142 236 [.int a] := pr_Z (an := anN) (c1 := cn_X11_three_0) (c2 := cn_X12_three_0) (z1 := cn_X11_three_Z) (z2 := cn_X12_three_Z) (pr9_three a) ch_X11_three_0 ch_X12_three_0 ch_X11_three_Z ch_X12_three_Z anI_N rfl rfl (by decide +kernel) (by decide +kernel) (by decide +kernel) (by decide +kernel) rfl rfl rfl rfl (fun h hH => ⟨bt0 hH, vI0 a, trivial⟩) (fun h hH => ⟨bt60 hH, vI0 a, trivial⟩) rfl rfl (by decide +kernel) (by decide +kernel) (by decide +kernel) (by decide +kernel) (fun h hH hR => Or.inr (se_three hH hR a))
theorem se_better {h : sHp} (hH : bH h) (hR : bR9 h) : sepd anN 146 241 [] h := by
  obtain ⟨⟨hd, so, sz, co, cl, f, gg, q4, bs⟩, c, ck, m, gk, ik, tf, kc, km, ej, rl, rk⟩ := hR
  have F := kc.1
  have h0 := kc.2.2.1
  have M := km.1
  obtain ⟨R, hR43⟩ := RA_of hH (p := 43) (Or.inl rfl)
  obtain ⟨s, sI, sJ, g, gM⟩ := RN_sg rl.1.1
  have n5 := sI.2.2.2.2.2.2.2
  have hn := gdF_n g
  have PO := rl.2 s sI
  obtain ⟨B, S1, S2, fc, ff, s38, s39, s40⟩ := SO_of2 hH
  obtain ⟨T, s41⟩ := trial_of hH
  exact Or.inr ⟨oT (btA m s m.2.2.1), oT_K, fun R r43 => sDo_mono (s_better11z (d := 10) (m := m) (by omega) h0 r43 F g rl.1 sI PO s38 s41) (fun r h1 q => ⟨q.2, fun hH1 Rm g61 => s_better12z (d := 10) (by omega) (MC_vE M q.1) g61 gM g rl.1 sI sJ PO.2⟩)⟩
theorem prz_better : pairR bR10 146 241 [] := pr_Z (an := anN) (c1 := cn_X11_better_0) (c2 := cn_X12_better_0) (z1 := cn_X11_better_Z) (z2 := cn_X12_better_Z) (pr9_better ) ch_X11_better_0 ch_X12_better_0 ch_X11_better_Z ch_X12_better_Z anI_N rfl rfl (by decide +kernel) (by decide +kernel) (by decide +kernel) (by decide +kernel) rfl rfl rfl rfl (fun h hH => ⟨bt0 hH, trivial⟩) (fun h hH => ⟨bt60 hH, trivial⟩) rfl rfl (by decide +kernel) (by decide +kernel) (by decide +kernel) (by decide +kernel) (fun h hH hR => Or.inr (se_better hH hR ))
