/-! ===== pairs lifted to bR9 ===== -/
theorem bNK_of {h : sHp} (q : bFL RO h) : bNK h := by
  obtain ⟨c, ck, m, g, ik, tf, kc, km, ej, rl, rk⟩ := q
  exact ⟨c.1, c.2.1, ck.1, ck.2.1, ik, tf, m.1, g, ⟨kc.1.1, kc.2.1.1, kc.2.2.1, kc.1.2.2.2.1, kc.2.1.2.2.2.1, kc.2.2.2⟩, ⟨⟨m.1, km.1.1, fun _ _ => rfl, rfl⟩, km.2⟩, ej, RN_J (RN_C rl.1.1 (fun _ _ => rfl) (fun _ _ _ => rfl)) (fun _ _ => rfl), fun z => RN_J (RN_C (rk z m).1.1 (fun _ _ => rfl) (fun _ _ _ => rfl)) (fun j hj => match j, hj with
    | 0, _ => rfl
    | 1, _ => rfl
    | 2, _ => rfl
    | 3, _ => rfl
    | 4, _ => rfl
    | 5, _ => rfl
    | 6, _ => rfl
    | k + 7, hj => absurd hj (by omega))⟩
theorem bR7_of {h : sHp} (q : bR9 h) : bR7 h := ⟨q.1, bNK_of q.2⟩
theorem bR8_of {h : sHp} (q : bR9 h) : bR8 h := by
  obtain ⟨q5, c, ck, m, g, ik, tf, kc, km, ej, rl, rk⟩ := q
  exact ⟨q5, c, ck, m, g, ik, tf, kc, km, ej, rl.1, fun z m' => (rk z m').1⟩
theorem pr_sub {A : sHp → Prop} {c1 c2 : bCn} {as : List Value} (hp : pairR A c1.1 c2.1 as) (hA : ∀ h, bR9 h → A h) (w1 : ∀ b ∈ bR9M, c1.2.2.2.2.1.testBit b = false) (w2 : ∀ b ∈ bR9M, c2.2.2.2.2.1.testBit b = false) (h1 : bHolds c1) (h2 : bHolds c2) (d1 : Nat.ble c1.2.1 10 = true) (d2 : Nat.ble c2.2.1 10 = true) (o1 : c1.2.2.2.1 = []) (o2 : c2.2.2.2.1 = []) (t1 : ∀ h, bH h → bTl h c1.2.2.1 (.ref 0 :: as)) (t2 : ∀ h, bH h → bTl h c2.2.2.1 (.ref 60 :: as)) : pairR bR9 c1.1 c2.1 as := fun h hH hR => sDo_mono (pr_and (R := A) (P := bR9) hp (fun hH a q => bR9_fr hH a w1 q) (fun hH a q => bR9_fr hH a w2 q) h1 h2 d1 d2 o1 o2 t1 t2 h hH ⟨hA h hR, hR⟩) (fun r1 h1 q => ⟨q.1, q.2.1, sDo_mono q.2.2 (fun r2 h2 z => ⟨z.1, z.2.1, z.2.2.1.2, z.2.2.2⟩)⟩)
theorem pr9_choose (a : Int32) (b : Int32) (x : Int32) : pairR bR9 143 237 [.int a, .int b, .int x] := pr_sub (c1 := cn_X11_choose_0) (c2 := cn_X12_choose_0) (pr8_choose a b x) (fun h q => bR8_of q) (by decide +kernel) (by decide +kernel) ch_X11_choose_0 ch_X12_choose_0 (by decide +kernel) (by decide +kernel) rfl rfl (fun h hH => ⟨bt0 hH, vI0 a, vI0 b, vI0 x, trivial⟩) (fun h hH => ⟨bt60 hH, vI0 a, vI0 b, vI0 x, trivial⟩)
theorem pr9_fits (a : Int32) (b : Int32) : pairR bR9 148 244 [.int a, .int b] := pr_sub (c1 := cn_X11_fits_0) (c2 := cn_X12_fits_0) (pr7_fits a b) (fun h q => bR7_of q) (by decide +kernel) (by decide +kernel) ch_X11_fits_0 ch_X12_fits_0 (by decide +kernel) (by decide +kernel) rfl rfl (fun h hH => ⟨bt0 hH, vI0 a, vI0 b, trivial⟩) (fun h hH => ⟨bt60 hH, vI0 a, vI0 b, trivial⟩)
theorem pr9_old (a : Int32) : pairR bR9 149 245 [.int a] := pr_sub (c1 := cn_X11_old_0) (c2 := cn_X12_old_0) (pr7_old a) (fun h q => bR7_of q) (by decide +kernel) (by decide +kernel) ch_X11_old_0 ch_X12_old_0 (by decide +kernel) (by decide +kernel) rfl rfl (fun h hH => ⟨bt0 hH, vI0 a, trivial⟩) (fun h hH => ⟨bt60 hH, vI0 a, trivial⟩)
theorem pr9_sure (a : Int32) (b : Int32) : pairR bR9 150 246 [.int a, .int b] := pr_sub (c1 := cn_X11_sure_0) (c2 := cn_X12_sure_0) (pr7_sure a b) (fun h q => bR7_of q) (by decide +kernel) (by decide +kernel) ch_X11_sure_0 ch_X12_sure_0 (by decide +kernel) (by decide +kernel) rfl rfl (fun h hH => ⟨bt0 hH, vI0 a, vI0 b, trivial⟩) (fun h hH => ⟨bt60 hH, vI0 a, vI0 b, trivial⟩)
theorem pr9_says (a : Int32) (b : Int32) : pairR bR9 120 189 [.int a, .int b] := pr_sub (c1 := cn_X11_says_0) (c2 := cn_X12_says_0) (pr7_says a b) (fun h q => bR7_of q) (by decide +kernel) (by decide +kernel) ch_X11_says_0 ch_X12_says_0 (by decide +kernel) (by decide +kernel) rfl rfl (fun h hH => ⟨bt0 hH, vI0 a, vI0 b, trivial⟩) (fun h hH => ⟨bt60 hH, vI0 a, vI0 b, trivial⟩)
theorem prz_fits (a : Int32) (b : Int32) : pairR bR10 148 244 [.int a, .int b] := pr_Z (an := anN) (c1 := cn_X11_fits_0) (c2 := cn_X12_fits_0) (z1 := cn_X11_fits_Z) (z2 := cn_X12_fits_Z) (pr9_fits a b) ch_X11_fits_0 ch_X12_fits_0 ch_X11_fits_Z ch_X12_fits_Z anI_N rfl rfl (by decide +kernel) (by decide +kernel) (by decide +kernel) (by decide +kernel) rfl rfl rfl rfl (fun h hH => ⟨bt0 hH, vI0 a, vI0 b, trivial⟩) (fun h hH => ⟨bt60 hH, vI0 a, vI0 b, trivial⟩) rfl rfl (by decide +kernel) (by decide +kernel) (by decide +kernel) (by decide +kernel) (fun h hH hR => Or.inl ⟨noX_int 0 (by decide +kernel) anb_N, noX_int 0 (by decide +kernel) anb_N⟩)
