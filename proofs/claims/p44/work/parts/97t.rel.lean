/-! ===== refusal counts: worths, worth ===== -/
theorem se_worths {h : sHp} (hH : bH h) (hR : bR9 h) (a : Int32) (b : Int32) (x : Int32) : sepd anN 128 208 [.int a, .int b, .int x] h := by
  obtain ⟨⟨hd, so, sz, co, cl, f, gg, q4, bs⟩, c, ck, m, gk, ik, tf, kc, km, ej, rl, rk⟩ := hR
  have F := kc.1
  have h0 := kc.2.2.1
  have M := km.1
  obtain ⟨R, hR43⟩ := RA_of hH (p := 43) (Or.inl rfl)
  obtain ⟨s, sI, sJ, g, gM⟩ := RN_sg rl.1.1
  have n5 := sI.2.2.2.2.2.2.2
  have hn := gdF_n g
  have PO := rl.2 s sI
  by_cases hx : (0 ≤ a.toInt ∧ a.toInt < (s.2.2 : Int)) ∧ (0 ≤ b.toInt ∧ b.toInt < 6) ∧ 0 ≤ x.toInt ∧ x.toInt < 100
  · obtain ⟨i, hi⟩ : ∃ i : Nat, a.toInt = i := ⟨a.toInt.toNat, by omega⟩
    obtain ⟨V, hV⟩ : ∃ i : Nat, b.toInt = i := ⟨b.toInt.toNat, by omega⟩
    obtain ⟨X, hX⟩ : ∃ i : Nat, x.toInt = i := ⟨x.toInt.toNat, by omega⟩
    have ea : a = Int32.ofNat i := Int32.toInt_inj.mp (by rw [hi, ofN_toInt (by omega)])
    have eb : b = Int32.ofNat V := Int32.toInt_inj.mp (by rw [hV, ofN_toInt (by omega)])
    have ex : x = Int32.ofNat X := Int32.toInt_inj.mp (by rw [hX, ofN_toInt (by omega)])
    subst ea eb ex
    have RS := (rl.1.2 s sI).1
    have hi2 : i < s.2.2 := by omega
    have hV2 : V < 6 := by omega
    have ev := (RS.2.2.2.1 i hi2 V hV2).trans (RB_vn RS hi2 V hV2).2
    have lt := (RB_vn RS hi2 V hV2).1
    exact Or.inl ⟨.int (Int32.ofNat (vnM m i V)), sDo_mono (s_worths11 (d := 10) (by omega) h0 F sI.2.2.1 n5 hi2 hV2 (by omega)) (fun r h' q => by rw [← ev]; exact q.1), ne_anN (by omega)⟩
  · by_cases h2 : (0 ≤ a.toInt ∧ a.toInt < (s.2.2 : Int)) ∧ (0 ≤ b.toInt ∧ b.toInt < 6)
    · refine Or.inr ⟨some 6, rfK_1 (by decide), fun R r43 => sDo_mono (s_worths11n (d := 10) (by omega) h0 r43 F sI.2.2.1 n5 hx) (fun r h' q => ?_)⟩
      rcases q with ⟨y, -⟩ | ⟨-, -, rfl⟩
      · exact absurd h2 y
      · refine ⟨s_set_eq r43, fun hg Rm g61 => sDo_mono (s_worths12n (d := 10) (by omega) (MC_vE M vE_43) g61 sJ.2.2.1 n5 hx) (fun r2 h3 q2 => ?_)⟩
        rcases q2 with ⟨y, -⟩ | ⟨-, -, rfl⟩
        · exact absurd h2 y
        · exact s_set_eq g61
    · refine Or.inr ⟨some 1, rfK_1 (by decide), fun R r43 => sDo_mono (s_worths11n (d := 10) (by omega) h0 r43 F sI.2.2.1 n5 hx) (fun r h' q => ?_)⟩
      rcases q with ⟨-, -, rfl⟩ | ⟨y, -⟩
      · refine ⟨s_set_eq r43, fun hg Rm g61 => sDo_mono (s_worths12n (d := 10) (by omega) (MC_vE M vE_43) g61 sJ.2.2.1 n5 hx) (fun r2 h3 q2 => ?_)⟩
        rcases q2 with ⟨-, -, rfl⟩ | ⟨y, -⟩
        · exact s_set_eq g61
        · exact absurd y h2
      · exact absurd y h2
theorem prz_worths (a : Int32) (b : Int32) (x : Int32) : pairR bR10 128 208 [.int a, .int b, .int x] := pr_Z (an := anN) (c1 := cn_X11_worths_0) (c2 := cn_X12_worths_0) (z1 := cn_X11_worths_Z) (z2 := cn_X12_worths_Z) (pr9_worths a b x) ch_X11_worths_0 ch_X12_worths_0 ch_X11_worths_Z ch_X12_worths_Z anI_N rfl rfl (by decide +kernel) (by decide +kernel) (by decide +kernel) (by decide +kernel) rfl rfl rfl rfl (fun h hH => ⟨bt0 hH, vI0 a, vI0 b, vI0 x, trivial⟩) (fun h hH => ⟨bt60 hH, vI0 a, vI0 b, vI0 x, trivial⟩) rfl rfl (by decide +kernel) (by decide +kernel) (by decide +kernel) (by decide +kernel) (fun h hH hR => Or.inr (se_worths hH hR a b x))
theorem pr9_worth (x : Int32) (y : Int64) : pairR bR9 131 212 [.int x, .long y] := pr_qR (c1 := cn_X11_worth_0) (c2 := cn_X12_worth_0) ch_X11_worth_0 ch_X12_worth_0 (by decide +kernel) (by decide +kernel) (by decide +kernel) (by decide +kernel) rfl rfl (fun h hH => ⟨bt0 hH, vI0 x, vL0 y, trivial⟩) (fun h hH => ⟨bt60 hH, vI0 x, vL0 y, trivial⟩) (fun hH a q => bR9_fr hH a (by decide +kernel) q) (fun hH a q => bR9_fr hH a (by decide +kernel) q) (fun h hH hR => by
  obtain ⟨⟨hd, so, sz, co, cl, f, gg, q4, bs⟩, c, ck, m, gk, ik, tf, kc, km, ej, rl, rk⟩ := hR
  have F := kc.1
  have h0 := kc.2.2.1
  have M := km.1
  obtain ⟨R, hR43⟩ := RA_of hH (p := 43) (Or.inl rfl)
  obtain ⟨s, sI, sJ, g, gM⟩ := RN_sg rl.1.1
  have n5 := sI.2.2.2.2.2.2.2
  have hn := gdF_n g
  have PO := rl.2 s sI
  by_cases hx : (0 ≤ x.toInt ∧ x.toInt < (s.2.2 : Int)) ∧ inN y (s.1 * s.2.1)
  · obtain ⟨hx, hy⟩ := hx
    obtain ⟨i, hi⟩ : ∃ i : Nat, x.toInt = i := ⟨x.toInt.toNat, by omega⟩
    have ex : x = Int32.ofNat i := Int32.toInt_inj.mp (by rw [hi, ofN_toInt (by omega)])
    subst ex
    exact ⟨_, sDo_mono (s_worth11 (d := 10) (by omega) h0 F g rl.1 sI (by omega) hy) (fun r h' q => ⟨q.1, by rw [q.2]; exact vE_rfl⟩), fun h1 hH1 E => sDo_mono (s_worth12 (d := 10) (by omega) (MC_vE M E) g gM rl.1 sI sJ (by omega) hy) (fun r h' q => q.1)⟩
  · refine ⟨_, sDo_mono (s_worth11n (d := 10) (by omega) h0 hR43 F g sI hx) (fun r h' q => ⟨q.1, by rw [q.2]; exact vE_43⟩), fun h1 hH1 E => ?_⟩
    obtain ⟨Rm, hRm⟩ := RA_of hH1 (p := 61) (Or.inr rfl)
    exact sDo_mono (s_worth12n (d := 10) (by omega) (MC_vE M E) hRm gM sJ hx) (fun r h' q => q.1))
theorem se_worth {h : sHp} (hH : bH h) (hR : bR9 h) (a : Int32) (b : Int64) : sepd anN 131 212 [.int a, .long b] h := by
  obtain ⟨⟨hd, so, sz, co, cl, f, gg, q4, bs⟩, c, ck, m, gk, ik, tf, kc, km, ej, rl, rk⟩ := hR
  have F := kc.1
  have h0 := kc.2.2.1
  have M := km.1
  obtain ⟨R, hR43⟩ := RA_of hH (p := 43) (Or.inl rfl)
  obtain ⟨s, sI, sJ, g, gM⟩ := RN_sg rl.1.1
  have n5 := sI.2.2.2.2.2.2.2
  have hn := gdF_n g
  have PO := rl.2 s sI
  by_cases hx : (0 ≤ a.toInt ∧ a.toInt < (s.2.2 : Int)) ∧ inN b (s.1 * s.2.1)
  · obtain ⟨hx, hy⟩ := hx
    obtain ⟨i, hi⟩ : ∃ i : Nat, a.toInt = i := ⟨a.toInt.toNat, by omega⟩
    have ex : a = Int32.ofNat i := Int32.toInt_inj.mp (by rw [hi, ofN_toInt (by omega)])
    subst ex
    exact se_no (s_worth11 (d := 10) (by omega) h0 F g rl.1 sI (by omega) hy) (fun h1 hH1 E => s_worth12 (d := 10) (by omega) (MC_vE M E) g gM rl.1 sI sJ (by omega) hy)
  · exact se_yes (X := 1) (by decide) (fun R r43 => s_worth11n (d := 10) (by omega) h0 r43 F g sI hx) (fun h1 hH1 E Rm g61 => s_worth12n (d := 10) (by omega) (MC_vE M E) g61 gM sJ hx)
theorem prz_worth (a : Int32) (b : Int64) : pairR bR10 131 212 [.int a, .long b] := pr_Z (an := anN) (c1 := cn_X11_worth_0) (c2 := cn_X12_worth_0) (z1 := cn_X11_worth_Z) (z2 := cn_X12_worth_Z) (pr9_worth a b) ch_X11_worth_0 ch_X12_worth_0 ch_X11_worth_Z ch_X12_worth_Z anI_N rfl rfl (by decide +kernel) (by decide +kernel) (by decide +kernel) (by decide +kernel) rfl rfl rfl rfl (fun h hH => ⟨bt0 hH, vI0 a, vL0 b, trivial⟩) (fun h hH => ⟨bt60 hH, vI0 a, vL0 b, trivial⟩) rfl rfl (by decide +kernel) (by decide +kernel) (by decide +kernel) (by decide +kernel) (fun h hH hR => Or.inr (se_worth hH hR a b))
