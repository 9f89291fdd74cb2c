/-! ===== refusal counts: the calls known exactly ===== -/
theorem se_no {k1 k2 : Nat} {as : List Value} {h : sHp} {an : Nat → Value} {v : Value} (a : sDo 10 k1 (.ref 0 :: as) h (fun r h' => r = some v ∧ h' = h)) (b : ∀ h1, bH h1 → vE h h1 → sDo 10 k2 (.ref 60 :: as) h1 (fun r h' => r = some v ∧ h' = h1)) : sepd an k1 k2 as h := Or.inr ⟨none, rfK_0, fun R r43 => sDo_mono a (fun r h' q => ⟨by rw [q.2]; exact r43, fun hg Rm g61 => sDo_mono (b h' hg (by rw [q.2]; exact vE_rfl)) (fun r2 h2 q2 => by rw [q2.2]; exact g61)⟩)⟩
theorem se_yes {k1 k2 : Nat} {as : List Value} {h : sHp} {an : Nat → Value} {v : Value} {X : Nat} (hX : X ≤ 7) (a : ∀ R, h[43]? = some (rFc R) → sDo 10 k1 (.ref 0 :: as) h (fun r h' => r = some v ∧ h' = h.set 43 (rFc (bump R X)))) (b : ∀ h1, bH h1 → vE h h1 → ∀ Rm, h1[61]? = some (rFc Rm) → sDo 10 k2 (.ref 60 :: as) h1 (fun r h' => r = some v ∧ h' = h1.set 61 (rFc (bump Rm X)))) : sepd an k1 k2 as h := Or.inr ⟨some X, rfK_1 hX, fun R r43 => sDo_mono (a R r43) (fun r h' q => ⟨by rw [q.2]; exact s_set_eq r43, fun hg Rm g61 => sDo_mono (b h' hg (by rw [q.2]; exact vE_43) Rm g61) (fun r2 h2 q2 => by rw [q2.2]; exact s_set_eq g61)⟩)⟩
theorem se_envies {h : sHp} (hH : bH h) (hR : bR9 h) (a : Int32) : sepd anN 144 238 [.int a] h := by
  obtain ⟨⟨hd, so, sz, co, cl, f, gg, q4, bs⟩, c, ck, m, gk, ik, tf, kc, km, ej, rl, rk⟩ := hR
  have F := kc.1
  have h0 := kc.2.2.1
  have M := km.1
  obtain ⟨R, hR43⟩ := RA_of hH (p := 43) (Or.inl rfl)
  obtain ⟨s, sI, sJ, g, gM⟩ := RN_sg rl.1.1
  have n5 := sI.2.2.2.2.2.2.2
  have hn := gdF_n g
  have PO := rl.2 s sI
  by_cases hx : 0 ≤ a.toInt ∧ a.toInt < (s.2.2 : Int)
  · obtain ⟨i, hi⟩ : ∃ i : Nat, a.toInt = i := ⟨a.toInt.toNat, by omega⟩
    have ex : a = Int32.ofNat i := Int32.toInt_inj.mp (by rw [hi, ofN_toInt (by omega)])
    subst ex
    exact se_no (s_env11 (d := 10) (by omega) h0 F g rl.1 sI (by omega)) (fun h1 hH1 E => s_env12 (d := 10) (by omega) (MC_vE M E) g gM rl.1 sI sJ PO (by omega))
  · exact se_yes (X := 1) (by decide) (fun R r43 => s_env11n (d := 10) (by omega) h0 r43 F sI hx) (fun h1 hH1 E Rm g61 => s_env12n (d := 10) (by omega) (MC_vE M E) g61 sJ hx)
theorem prz_envies (a : Int32) : pairR bR10 144 238 [.int a] := pr_Z (an := anN) (c1 := cn_X11_envies_0) (c2 := cn_X12_envies_0) (z1 := cn_X11_envies_Z) (z2 := cn_X12_envies_Z) (pr9_envies a) ch_X11_envies_0 ch_X12_envies_0 ch_X11_envies_Z ch_X12_envies_Z anI_N rfl rfl (by decide +kernel) (by decide +kernel) (by decide +kernel) (by decide +kernel) rfl rfl rfl rfl (fun h hH => ⟨bt0 hH, vI0 a, trivial⟩) (fun h hH => ⟨bt60 hH, vI0 a, trivial⟩) rfl rfl (by decide +kernel) (by decide +kernel) (by decide +kernel) (by decide +kernel) (fun h hH hR => Or.inr (se_envies hH hR a))
theorem se_evens {h : sHp} (hH : bH h) (hR : bR9 h) (a : Int32) : sepd anE 145 239 [.int a] h := by
  obtain ⟨⟨hd, so, sz, co, cl, f, gg, q4, bs⟩, c, ck, m, gk, ik, tf, kc, km, ej, rl, rk⟩ := hR
  have F := kc.1
  have h0 := kc.2.2.1
  have M := km.1
  obtain ⟨R, hR43⟩ := RA_of hH (p := 43) (Or.inl rfl)
  obtain ⟨s, sI, sJ, g, gM⟩ := RN_sg rl.1.1
  have n5 := sI.2.2.2.2.2.2.2
  have hn := gdF_n g
  have PO := rl.2 s sI
  by_cases hx : 0 ≤ a.toInt ∧ a.toInt < (s.2.2 : Int)
  · obtain ⟨i, hi⟩ : ∃ i : Nat, a.toInt = i := ⟨a.toInt.toNat, by omega⟩
    have ex : a = Int32.ofNat i := Int32.toInt_inj.mp (by rw [hi, ofN_toInt (by omega)])
    subst ex
    exact se_no (s_ev11 (d := 10) (by omega) h0 F g rl.1 sI (by omega)) (fun h1 hH1 E => s_ev12 (d := 10) (by omega) (MC_vE M E) g gM rl.1 sI sJ PO (by omega))
  · exact se_yes (X := 1) (by decide) (fun R r43 => s_ev11n (d := 10) (by omega) h0 r43 F sI hx) (fun h1 hH1 E Rm g61 => s_ev12n (d := 10) (by omega) (MC_vE M E) g61 sJ hx)
theorem prz_evens (a : Int32) : pairR bR10 145 239 [.int a] := pr_Z (an := anE) (c1 := cn_X11_evens_0) (c2 := cn_X12_evens_0) (z1 := cn_X11_evens_Z) (z2 := cn_X12_evens_Z) (pr9_evens a) ch_X11_evens_0 ch_X12_evens_0 ch_X11_evens_Z ch_X12_evens_Z anI_E rfl rfl (by decide +kernel) (by decide +kernel) (by decide +kernel) (by decide +kernel) rfl rfl rfl rfl (fun h hH => ⟨bt0 hH, vI0 a, trivial⟩) (fun h hH => ⟨bt60 hH, vI0 a, trivial⟩) rfl rfl (by decide +kernel) (by decide +kernel) (by decide +kernel) (by decide +kernel) (fun h hH hR => Or.inr (se_evens hH hR a))
theorem se_heirOf {h : sHp} (hH : bH h) (hR : bR9 h) (a : Int32) (b : Int32) : sepd anN 130 210 [.int a, .int b] h := by
  obtain ⟨⟨hd, so, sz, co, cl, f, gg, q4, bs⟩, c, ck, m, gk, ik, tf, kc, km, ej, rl, rk⟩ := hR
  have F := kc.1
  have h0 := kc.2.2.1
  have M := km.1
  obtain ⟨R, hR43⟩ := RA_of hH (p := 43) (Or.inl rfl)
  obtain ⟨s, sI, sJ, g, gM⟩ := RN_sg rl.1.1
  have n5 := sI.2.2.2.2.2.2.2
  have hn := gdF_n g
  have PO := rl.2 s sI
  by_cases hx : (0 ≤ a.toInt ∧ a.toInt < (s.2.2 : Int)) ∧ hoD b
  · obtain ⟨hx, hy⟩ := hx
    obtain ⟨i, hi⟩ : ∃ i : Nat, a.toInt = i := ⟨a.toInt.toNat, by omega⟩
    have ex : a = Int32.ofNat i := Int32.toInt_inj.mp (by rw [hi, ofN_toInt (by omega)])
    subst ex
    obtain ⟨v, hv⟩ := hoP_of (m := m) (S := c.2.2.2.2.2.2) (i := i) hy
    exact se_no (s_ho11 (d := 10) (by omega) h0 F rl.1 sI (by omega) hv) (fun h1 hH1 E => s_ho12 (d := 10) (by omega) (MC_vE M E) g gM rl.1 sI sJ PO (by omega) hv)
  · exact se_yes (X := 5) (by decide) (fun R r43 => s_ho11n (d := 10) (by omega) h0 r43 F sI hx) (fun h1 hH1 E Rm g61 => s_ho12n (d := 10) (by omega) (MC_vE M E) g61 sJ hx)
theorem prz_heirOf (a : Int32) (b : Int32) : pairR bR10 130 210 [.int a, .int b] := pr_Z (an := anN) (c1 := cn_X11_heirOf_0) (c2 := cn_X12_heirOf_0) (z1 := cn_X11_heirOf_Z) (z2 := cn_X12_heirOf_Z) (pr9_heirOf a b) ch_X11_heirOf_0 ch_X12_heirOf_0 ch_X11_heirOf_Z ch_X12_heirOf_Z anI_N rfl rfl (by decide +kernel) (by decide +kernel) (by decide +kernel) (by decide +kernel) rfl rfl rfl rfl (fun h hH => ⟨bt0 hH, vI0 a, vI0 b, trivial⟩) (fun h hH => ⟨bt60 hH, vI0 a, vI0 b, trivial⟩) rfl rfl (by decide +kernel) (by decide +kernel) (by decide +kernel) (by decide +kernel) (fun h hH hR => Or.inr (se_heirOf hH hR a b))
