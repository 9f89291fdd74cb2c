/-! ===== refusal counts: own, place, heir, worths ===== -/
theorem ne_anN {n : Nat} (hn : n < 10000) : ∀ X, 1 ≤ X → X ≤ 7 → Value.int (Int32.ofNat n) ≠ anN X := fun X h1 h7 e => by
  have a := anb_N X (by omega) h1
  rw [← e] at a
  have b : (Int32.ofNat n).toInt < 0 := a
  rw [ofC_toInt (by omega)] at b
  omega
theorem se_own {h : sHp} (hH : bH h) (hR : bR9 h) (a : Int64) (b : Int32) : sepd anN 133 216 [.long a, .int b] h := by
  obtain ⟨⟨hd, so, sz, co, cl, f, gg, q4, bs⟩, c, ck, m, gk, ik, tf, kc, km, ej, rl, rk⟩ := hR
  have F := kc.1
  have h0 := kc.2.2.1
  have M := km.1
  obtain ⟨R, hR43⟩ := RA_of hH (p := 43) (Or.inl rfl)
  obtain ⟨s, sI, sJ, g, gM⟩ := RN_sg rl.1.1
  have n5 := sI.2.2.2.2.2.2.2
  have hn := gdF_n g
  have PO := rl.2 s sI
  by_cases hk : (∃ k, okO s.2.2 b k) ∧ inN a (s.1 * s.2.1)
  · obtain ⟨⟨k, hk⟩, hx⟩ := hk
    exact Or.inl ⟨_, sDo_mono (s_own11 (d := 10) (by omega) h0 F g sI hk hx) (fun r h' q => q.1), ne_anN (by have := cnt_le a; omega)⟩
  · exact se_yes (X := 1) (by decide) (fun R r43 => s_own11n (d := 10) (by omega) h0 r43 F g sI hk) (fun h1 hH1 E Rm g61 => s_own12n (d := 10) (by omega) (MC_vE M E) g61 gM sJ hk)
theorem prz_own (a : Int64) (b : Int32) : pairR bR10 133 216 [.long a, .int b] := pr_Z (an := anN) (c1 := cn_X11_own_0) (c2 := cn_X12_own_0) (z1 := cn_X11_own_Z) (z2 := cn_X12_own_Z) (pr9_own a b) ch_X11_own_0 ch_X12_own_0 ch_X11_own_Z ch_X12_own_Z anI_N rfl rfl (by decide +kernel) (by decide +kernel) (by decide +kernel) (by decide +kernel) rfl rfl rfl rfl (fun h hH => ⟨bt0 hH, vL0 a, vI0 b, trivial⟩) (fun h hH => ⟨bt60 hH, vL0 a, vI0 b, trivial⟩) rfl rfl (by decide +kernel) (by decide +kernel) (by decide +kernel) (by decide +kernel) (fun h hH hR => Or.inr (se_own hH hR a b))
theorem se_place {h : sHp} (hH : bH h) (hR : bR9 h) (a : Int32) (b : Int32) : sepd anP 126 206 [.int a, .int b] h := by
  obtain ⟨⟨hd, so, sz, co, cl, f, gg, q4, bs⟩, c, ck, m, gk, ik, tf, kc, km, ej, rl, rk⟩ := hR
  have F := kc.1
  have h0 := kc.2.2.1
  have M := km.1
  obtain ⟨R, hR43⟩ := RA_of hH (p := 43) (Or.inl rfl)
  obtain ⟨s, sI, sJ, g, gM⟩ := RN_sg rl.1.1
  have n5 := sI.2.2.2.2.2.2.2
  have hn := gdF_n g
  have PO := rl.2 s sI
  by_cases hp : okPl (s.1 * s.2.1) a.toInt b.toInt
  · refine Or.inr ⟨none, rfK_0, fun R r43 => sDo_mono (s_place11 (d := 10) (by omega) h0 r43 F g) (fun r h' q => ?_)⟩
    rcases q with ⟨K, -, -, -, -, rfl⟩ | ⟨n, -, -⟩
    · refine ⟨by rw [s_set_ne (by decide)]; exact r43, fun hg Rm g61 => sDo_mono (s_place12 (d := 10) (by omega) (MC_tr M (fun q x h1 h2 h3 hx => by rw [s_set_ne (by omega)]; exact hx)) g61 gM) (fun r2 h2 q2 => ?_)⟩
      rcases q2 with ⟨K2, -, -, -, -, rfl⟩ | ⟨n, -, -⟩
      · rw [s_set_ne (by decide)]; exact g61
      · exact absurd hp n
    · exact absurd hp n
  · refine Or.inr ⟨some 6, rfK_1 (by decide), fun R r43 => sDo_mono (s_place11 (d := 10) (by omega) h0 r43 F g) (fun r h' q => ?_)⟩
    rcases q with ⟨K, -, -, y, -, -⟩ | ⟨-, -, rfl⟩
    · exact absurd y hp
    · refine ⟨s_set_eq r43, fun hg Rm g61 => sDo_mono (s_place12 (d := 10) (by omega) (MC_vE M vE_43) g61 gM) (fun r2 h2 q2 => ?_)⟩
      rcases q2 with ⟨K2, -, -, y, -, -⟩ | ⟨-, -, rfl⟩
      · exact absurd y hp
      · exact s_set_eq g61
theorem prz_place (a : Int32) (b : Int32) : pairR bR10 126 206 [.int a, .int b] := pr_Z (an := anP) (c1 := cn_X11_place_0) (c2 := cn_X12_place_0) (z1 := cn_X11_place_Z) (z2 := cn_X12_place_Z) (pr9_place a b) ch_X11_place_0 ch_X12_place_0 ch_X11_place_Z ch_X12_place_Z anI_P rfl rfl (by decide +kernel) (by decide +kernel) (by decide +kernel) (by decide +kernel) rfl rfl rfl rfl (fun h hH => ⟨bt0 hH, vI0 a, vI0 b, trivial⟩) (fun h hH => ⟨bt60 hH, vI0 a, vI0 b, trivial⟩) rfl rfl (by decide +kernel) (by decide +kernel) (by decide +kernel) (by decide +kernel) (fun h hH hR => Or.inr (se_place hH hR a b))
theorem se_heir {h : sHp} (hH : bH h) (hR : bR9 h) (a : Int32) : sepd anN 127 207 [.int a] h := by
  obtain ⟨⟨hd, so, sz, co, cl, f, gg, q4, bs⟩, c, ck, m, gk, ik, tf, kc, km, ej, rl, rk⟩ := hR
  have F := kc.1
  have h0 := kc.2.2.1
  have M := km.1
  obtain ⟨R, hR43⟩ := RA_of hH (p := 43) (Or.inl rfl)
  obtain ⟨s, sI, sJ, g, gM⟩ := RN_sg rl.1.1
  have n5 := sI.2.2.2.2.2.2.2
  have hn := gdF_n g
  have PO := rl.2 s sI
  by_cases hx : 1 ≤ a.toInt ∧ a.toInt ≤ 9
  · by_cases h5 : s.2.2 = 5
    · refine Or.inr ⟨some 7, rfK_1 (by decide), fun R r43 => sDo_mono (s_heir11 (d := 10) (by omega) h0 r43 F sI.2.2.1 n5) (fun r h' q => ?_)⟩
      rcases q with ⟨-, y, -⟩ | ⟨-, -, -, rfl⟩ | ⟨y, -⟩
      · omega
      · refine ⟨s_set_eq r43, fun hg Rm g61 => sDo_mono (s_heir12 (d := 10) (by omega) (MC_vE M vE_43) g61 sJ.2.2.1 n5) (fun r2 h2 q2 => ?_)⟩
        rcases q2 with ⟨-, y, -⟩ | ⟨-, -, -, rfl⟩ | ⟨y, -⟩
        · omega
        · exact s_set_eq g61
        · exact absurd hx y
      · exact absurd hx y
    · refine Or.inl ⟨.int (Int32.ofNat s.2.2), sDo_mono (s_heir11 (d := 10) (by omega) h0 hR43 F sI.2.2.1 n5) (fun r h' q => ?_), ne_anN (by omega)⟩
      rcases q with ⟨-, -, y, -⟩ | ⟨-, y, -⟩ | ⟨y, -⟩
      · exact y
      · exact absurd y h5
      · exact absurd hx y
  · refine Or.inr ⟨some 6, rfK_1 (by decide), fun R r43 => sDo_mono (s_heir11 (d := 10) (by omega) h0 r43 F sI.2.2.1 n5) (fun r h' q => ?_)⟩
    rcases q with ⟨y, -⟩ | ⟨y, -⟩ | ⟨-, -, rfl⟩
    · exact absurd y hx
    · exact absurd y hx
    · refine ⟨s_set_eq r43, fun hg Rm g61 => sDo_mono (s_heir12 (d := 10) (by omega) (MC_vE M vE_43) g61 sJ.2.2.1 n5) (fun r2 h2 q2 => ?_)⟩
      rcases q2 with ⟨y, -⟩ | ⟨y, -⟩ | ⟨-, -, rfl⟩
      · exact absurd y hx
      · exact absurd y hx
      · exact s_set_eq g61
theorem prz_heir (a : Int32) : pairR bR10 127 207 [.int a] := pr_Z (an := anN) (c1 := cn_X11_heir_0) (c2 := cn_X12_heir_0) (z1 := cn_X11_heir_Z) (z2 := cn_X12_heir_Z) (pr9_heir a) ch_X11_heir_0 ch_X12_heir_0 ch_X11_heir_Z ch_X12_heir_Z anI_N rfl rfl (by decide +kernel) (by decide +kernel) (by decide +kernel) (by decide +kernel) rfl rfl rfl rfl (fun h hH => ⟨bt0 hH, vI0 a, trivial⟩) (fun h hH => ⟨bt60 hH, vI0 a, trivial⟩) rfl rfl (by decide +kernel) (by decide +kernel) (by decide +kernel) (by decide +kernel) (fun h hH hR => Or.inr (se_heir hH hR a))
