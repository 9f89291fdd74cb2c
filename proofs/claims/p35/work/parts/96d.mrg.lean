section
/-! ===== shelves, fields and owners together ===== -/
def bR9 (h : sHp) : Prop := bR5 h ∧ bFL RO h
def bR9M : List Nat := bRM ++ (KBc ++ (KBm ++ [15 * 64, 63 * 64]))
theorem bR9_fr {W gg : Nat} {h h' : sHp} (hH' : bH h') (a : bFr W gg h h') (hW : ∀ b ∈ bR9M, W.testBit b = false) (q : bR9 h) : bR9 h' := ⟨bR5_fr a (fun b hb => hW b (List.mem_append_left _ hb)) q.1, bFL_fr RO_ok hH' a (fun b hb => hW b (List.mem_append_right _ (List.mem_append_left _ hb))) (hW _ (List.mem_append_right _ (List.mem_append_right _ (List.mem_append_right _ (List.mem_cons_self ..))))) (fun b hb => hW b (List.mem_append_right _ (List.mem_append_right _ (List.mem_append_left _ hb)))) (hW _ (List.mem_append_right _ (List.mem_append_right _ (List.mem_append_right _ (List.mem_cons_of_mem _ (List.mem_cons_self ..)))))) q.2⟩
/-- the owners stand as before, though they were moved meanwhile -/
theorem bR9_back {W gg : Nat} {h h' : sHp} {ow : Nat → Int32} (hH' : bH h') (a : bFr W gg h h') (hW : ∀ b ∈ bRM ++ (KBc ++ (KBm ++ [15 * 64])), W.testBit b = false) (q : bR9 h) (h63 : h[63]? = some (.inl (0, 64, .inl ow))) (b : ∃ ow', h'[63]? = some (.inl (0, 64, .inl ow')) ∧ ∀ q, q < 64 → ow' q = ow q) : bR9 h' := by
  obtain ⟨q5, c, ck, m, g, ik, tf, kc, km, ej, rl, rk⟩ := q
  obtain ⟨ow', e63, eo⟩ := b
  obtain ⟨J', km', eJ, e37⟩ := kM_frO hH' a (fun b hb => hW b (List.mem_append_right _ (List.mem_append_right _ (List.mem_append_left _ hb)))) e63 km
  have kc' := kC_fr a (fun b hb => hW b (List.mem_append_right _ (List.mem_append_left _ hb))) (hW _ (List.mem_append_right _ (List.mem_append_right _ (List.mem_append_right _ (List.mem_cons_self ..))))) kc
  have eow : ow = m.2.2.1 := by
    have := h63.symm.trans km.1.2.2.1
    cases this
    rfl
  subst eow
  obtain ⟨s, sI, sJ, gF, -⟩ := RN_sg rl.1.1
  have hn := gdF_n gF
  have r2 : RO c (m.1, m.2.1, ow', m.2.2.2) := by
    have k := RO_ow (o1 := c.2.2.2.2.2.2) (o2 := ow') rl sI (PT_ext hn.1 (fun _ _ => rfl) (fun q hq => eo q (by omega)) (rl.2 s sI))
    exact k
  exact ⟨bR5_fr a (fun b hb => hW b (List.mem_append_left _ hb)) q5, c, ck, _, g, ik, tf, kc', km', e37.trans ej, RO_ok.1 _ _ _ r2 ⟨eJ, rfl⟩, rk⟩
theorem pr_oR {c1 c2 : bCn} {as : List Value} (h1 : bHolds c1) (h2 : bHolds c2) (d1 : Nat.ble c1.2.1 10 = true) (d2 : Nat.ble c2.2.1 10 = true) (g1 : Nat.ble c1.2.2.2.2.2.1 1 = true) (g2 : Nat.ble c2.2.2.2.2.2.1 1 = true) (o1 : c1.2.2.2.1 = []) (o2 : c2.2.2.2.1 = []) (t1 : ∀ h, bH h → bTl h c1.2.2.1 (.ref 0 :: as)) (t2 : ∀ h, bH h → bTl h c2.2.2.1 (.ref 60 :: as)) (w1 : ∀ b ∈ bR9M, c1.2.2.2.2.1.testBit b = false) (w2 : ∀ b ∈ bRM ++ (KBc ++ (KBm ++ [15 * 64])), c2.2.2.2.2.1.testBit b = false) (e : ∀ h, bH h → bR9 h → ∃ (v : Value) (ow : Nat → Int32), h[63]? = some (.inl (0, 64, .inl ow)) ∧ sDo 10 c1.1 (.ref 0 :: as) h (fun r h1 => r = some v ∧ vE h h1) ∧ ∀ h1, bH h1 → vE h h1 → sDo 10 c2.1 (.ref 60 :: as) h1 (fun r h2 => r = some v ∧ ∃ ow', h2[63]? = some (.inl (0, 64, .inl ow')) ∧ ∀ q, q < 64 → ow' q = ow q)) : pairR bR9 c1.1 c2.1 as :=
  pr_mk h1 h2 d1 d2 g1 g2 o1 o2 t1 t2 (fun h hH hR => by
    obtain ⟨v, ow, h63, e1, e2⟩ := e h hH hR
    exact sDo_mono e1 (fun r1 h1' q hH1 fr1 => sDo_mono (e2 h1' hH1 q.2) (fun r2 h2' p hH2 fr2 => ⟨bR9_back hH2 fr2 w2 (bR9_fr hH1 fr1 w1 hR) (vE_at q.2 h63 (by decide)) p.2, v, q.1, p.1⟩)))
theorem RO_fo : relFo RO := fun c m s i b r q hi hb => RO_mk (s := s) (RB_fo c m s i b r.1 q hi hb) q (r.2 s q)
theorem pr9_row (s : Int32) (a : Int32) (x : Int32) : pairR bR9 114 178 [.int s, .int a, .int x] := pr_and (R := bR5) (P := bFL RO) (c1 := cn_X11_row_0) (c2 := cn_X12_row_0) (pr_row s a x) (fun hH a q => bFL_fr RO_ok hH a (by decide +kernel) (by decide +kernel) (by decide +kernel) (by decide +kernel) q) (fun hH a q => bFL_fr RO_ok hH a (by decide +kernel) (by decide +kernel) (by decide +kernel) (by decide +kernel) q) ch_X11_row_0 ch_X12_row_0 (by decide +kernel) (by decide +kernel) rfl rfl (fun h hH => ⟨bt0 hH, vI0 s, vI0 a, vI0 x, trivial⟩) (fun h hH => ⟨bt60 hH, vI0 s, vI0 a, vI0 x, trivial⟩)
theorem pr9_set (s : Int32) (i : Int32) (v : Int64) : pairR bR9 115 179 [.int s, .int i, .long v] := pr_and (R := bR5) (P := bFL RO) (c1 := cn_X11_set_0) (c2 := cn_X12_set_0) (pr_set s i v) (fun hH a q => bFL_fr RO_ok hH a (by decide +kernel) (by decide +kernel) (by decide +kernel) (by decide +kernel) q) (fun hH a q => bFL_fr RO_ok hH a (by decide +kernel) (by decide +kernel) (by decide +kernel) (by decide +kernel) q) ch_X11_set_0 ch_X12_set_0 (by decide +kernel) (by decide +kernel) rfl rfl (fun h hH => ⟨bt0 hH, vI0 s, vI0 i, vL0 v, trivial⟩) (fun h hH => ⟨bt60 hH, vI0 s, vI0 i, vL0 v, trivial⟩)
theorem pr9_cut (s : Int32) (c : Int32) : pairR bR9 118 182 [.int s, .int c] := pr_and (R := bR5) (P := bFL RO) (c1 := cn_X11_cut_0) (c2 := cn_X12_cut_0) (pr_cut s c) (fun hH a q => bFL_fr RO_ok hH a (by decide +kernel) (by decide +kernel) (by decide +kernel) (by decide +kernel) q) (fun hH a q => bFL_fr RO_ok hH a (by decide +kernel) (by decide +kernel) (by decide +kernel) (by decide +kernel) q) ch_X11_cut_0 ch_X12_cut_0 (by decide +kernel) (by decide +kernel) rfl rfl (fun h hH => ⟨bt0 hH, vI0 s, vI0 c, trivial⟩) (fun h hH => ⟨bt60 hH, vI0 s, vI0 c, trivial⟩)
theorem pr9_copy (p : Int32) (q : Int32) (i : Int32) (j : Int32) (n : Int32) : pairR bR9 116 180 [.int p, .int q, .int i, .int j, .int n] := pr_and (R := bR5) (P := bFL RO) (c1 := cn_X11_copy_0) (c2 := cn_X12_copy_0) (pr_copy p q i j n) (fun hH a q => bFL_fr RO_ok hH a (by decide +kernel) (by decide +kernel) (by decide +kernel) (by decide +kernel) q) (fun hH a q => bFL_fr RO_ok hH a (by decide +kernel) (by decide +kernel) (by decide +kernel) (by decide +kernel) q) ch_X11_copy_0 ch_X12_copy_0 (by decide +kernel) (by decide +kernel) rfl rfl (fun h hH => ⟨bt0 hH, vI0 p, vI0 q, vI0 i, vI0 j, vI0 n, trivial⟩) (fun h hH => ⟨bt60 hH, vI0 p, vI0 q, vI0 i, vI0 j, vI0 n, trivial⟩)
theorem pr9_size (x : Int32) (y : Int32) : pairR bR9 124 204 [.int x, .int y] := pr_swap (A := bFL RO) (B := bR5) (pr_and (R := bFL RO) (P := bR5) (c1 := cn_X11_size_0) (c2 := cn_X12_size_0) (pk_size RO_ok  x y) (fun hH a q => bR5_fr a (by decide +kernel) q) (fun hH a q => bR5_fr a (by decide +kernel) q) ch_X11_size_0 ch_X12_size_0 (by decide +kernel) (by decide +kernel) rfl rfl (fun h hH => ⟨bt0 hH, vI0 x, vI0 y, trivial⟩) (fun h hH => ⟨bt60 hH, vI0 x, vI0 y, trivial⟩))
theorem pr9_place (x : Int32) (v : Int32) : pairR bR9 126 206 [.int x, .int v] := pr_swap (A := bFL RO) (B := bR5) (pr_and (R := bFL RO) (P := bR5) (c1 := cn_X11_place_0) (c2 := cn_X12_place_0) (pk_place RO_ok  x v) (fun hH a q => bR5_fr a (by decide +kernel) q) (fun hH a q => bR5_fr a (by decide +kernel) q) ch_X11_place_0 ch_X12_place_0 (by decide +kernel) (by decide +kernel) rfl rfl (fun h hH => ⟨bt0 hH, vI0 x, vI0 v, trivial⟩) (fun h hH => ⟨bt60 hH, vI0 x, vI0 v, trivial⟩))
theorem pr9_heir (x : Int32) : pairR bR9 127 207 [.int x] := pr_swap (A := bFL RO) (B := bR5) (pr_and (R := bFL RO) (P := bR5) (c1 := cn_X11_heir_0) (c2 := cn_X12_heir_0) (pk_heir RO_ok  x) (fun hH a q => bR5_fr a (by decide +kernel) q) (fun hH a q => bR5_fr a (by decide +kernel) q) ch_X11_heir_0 ch_X12_heir_0 (by decide +kernel) (by decide +kernel) rfl rfl (fun h hH => ⟨bt0 hH, vI0 x, trivial⟩) (fun h hH => ⟨bt60 hH, vI0 x, trivial⟩))
theorem pr9_image : pairR bR9 154 254 [] := pr_swap (A := bFL RO) (B := bR5) (pr_and (R := bFL RO) (P := bR5) (c1 := cn_X11_image_0) (c2 := cn_X12_image_0) (pk_image RO_ok  ) (fun hH a q => bR5_fr a (by decide +kernel) q) (fun hH a q => bR5_fr a (by decide +kernel) q) ch_X11_image_0 ch_X12_image_0 (by decide +kernel) (by decide +kernel) rfl rfl (fun h hH => ⟨bt0 hH, trivial⟩) (fun h hH => ⟨bt60 hH, trivial⟩))
theorem pr9_restore : pairR bR9 155 255 [] := pr_swap (A := bFL RO) (B := bR5) (pr_and (R := bFL RO) (P := bR5) (c1 := cn_X11_restore_0) (c2 := cn_X12_restore_0) (pk_restore RO_ok  ) (fun hH a q => bR5_fr a (by decide +kernel) q) (fun hH a q => bR5_fr a (by decide +kernel) q) ch_X11_restore_0 ch_X12_restore_0 (by decide +kernel) (by decide +kernel) rfl rfl (fun h hH => ⟨bt0 hH, trivial⟩) (fun h hH => ⟨bt60 hH, trivial⟩))
theorem pr9_soil (x : Int32) (v : Int32) : pairR bR9 125 205 [.int x, .int v] := pr_swap (A := bFL RO) (B := bR5) (pr_and (R := bFL RO) (P := bR5) (c1 := cn_X11_soil_0) (c2 := cn_X12_soil_0) (pk_soil RO_ok (fun _ _ r => r.1) x v) (fun hH a q => bR5_fr a (by decide +kernel) q) (fun hH a q => bR5_fr a (by decide +kernel) q) ch_X11_soil_0 ch_X12_soil_0 (by decide +kernel) (by decide +kernel) rfl rfl (fun h hH => ⟨bt0 hH, vI0 x, vI0 v, trivial⟩) (fun h hH => ⟨bt60 hH, vI0 x, vI0 v, trivial⟩))
theorem pr9_worths (x : Int32) (v : Int32) (y : Int32) : pairR bR9 128 208 [.int x, .int v, .int y] := pr_swap (A := bFL RO) (B := bR5) (pr_and (R := bFL RO) (P := bR5) (c1 := cn_X11_worths_0) (c2 := cn_X12_worths_0) (pk_worths RO_ok (fun _ _ r => r.1) x v y) (fun hH a q => bR5_fr a (by decide +kernel) q) (fun hH a q => bR5_fr a (by decide +kernel) q) ch_X11_worths_0 ch_X12_worths_0 (by decide +kernel) (by decide +kernel) rfl rfl (fun h hH => ⟨bt0 hH, vI0 x, vI0 v, vI0 y, trivial⟩) (fun h hH => ⟨bt60 hH, vI0 x, vI0 v, vI0 y, trivial⟩))
theorem pr9_fond (x : Int32) (b : Int32) (hb : b = 0 ∨ b = 1) : pairR bR9 129 209 [.int x, .int b] := pr_swap (A := bFL RO) (B := bR5) (pr_and (R := bFL RO) (P := bR5) (c1 := cn_X11_fond_0) (c2 := cn_X12_fond_0) (pk_fond RO_ok (fun _ _ r => r.1) RO_fo x b hb) (fun hH a q => bR5_fr a (by decide +kernel) q) (fun hH a q => bR5_fr a (by decide +kernel) q) ch_X11_fond_0 ch_X12_fond_0 (by decide +kernel) (by decide +kernel) rfl rfl (fun h hH => ⟨bt0 hH, vI0 x, vZ0 hb, trivial⟩) (fun h hH => ⟨bt60 hH, vI0 x, vZ0 hb, trivial⟩))
theorem pr9_field (x : Int32) : pairR bR9 122 202 [.int x] := pk_field RO_ok x
/-! ===== two ===== -/
theorem g_lsw {k d pc : Nat} {L : sLo} {st : List Value} {h : sHp} {Q : Option Value → sHp → Prop} {df : Int} {ps : Array (Int × Int)} {x : Int32} (t : Nat) (hF : sFk k pc = some (.lookupswitch df ps)) (ht : sTgt pc (Op.lookupswitch.offset ps.toList df x.toInt) = some t) (g : sGo none k d t L st h Q) : sGo none k d pc L (.int x :: st) h Q := by
  refine go_jmp (pc1 := t) (st1 := st) hF rfl ?_ g
  show (sTgt pc (Op.lookupswitch.offset ps.toList df x.toInt)).map (fun t => (t, st)) = _
  rw [ht]
  rfl
theorem s_best {d : Nat} {h : sHp} {B : Nat → Int32} {S1 S2 : Int64} {x : Int32} {t : T3} {a b : Nat} (hd : 1 ≤ d) (hS : h[38]? = some (sO B S1 S2)) (bb : bsC B t) (ht : t.1 = some (a, b)) (hx : 0 ≤ x.toInt ∧ x.toInt ≤ 2) : sDo d 90 [.ref 38, .int x] h (fun r h' => h' = h ∧ r = some (.int (twA t x.toInt))) := by
  obtain ⟨t1, t2⟩ := t
  have ht : t1 = some (a, b) := ht
  subst ht
  have b1 : (B 0 = Int32.ofNat a ∧ B 4 = Int32.ofNat b) ∧ B 5 = Int32.ofNat t2 := bb
  refine sDo_of1 (nL := 2) (L := [some (.ref 38), some (.int x)]) hd rfl rfl ?_
  refine g_iload_n (i := 1) rfl rfl ?_
  rcases (show x.toInt = 0 ∨ x.toInt = 1 ∨ x.toInt = 2 by omega) with hv | hv | hv
  · skip
    refine g_lsw 28 rfl (by rw [hv]; rfl) ?_
    refine g_aload_n (i := 0) rfl rfl ?_
    refine g_getfield (v := .int (B 0)) rfl hS (by decide) rfl ?_
    refine g_ireturn (ty := .int) rfl rfl rfl ?_
    refine ⟨rfl, congrArg (fun z => some (Value.int z)) ?_⟩
    show _ = (if x.toInt = 0 then Int32.ofNat a else if x.toInt = 1 then Int32.ofNat b else Int32.ofNat t2)
    rw [if_pos hv]; exact b1.1.1
  · skip
    refine g_lsw 33 rfl (by rw [hv]; rfl) ?_
    refine g_aload_n (i := 0) rfl rfl ?_
    refine g_getfield (v := .int (B 4)) rfl hS (by decide) rfl ?_
    refine g_ireturn (ty := .int) rfl rfl rfl ?_
    refine ⟨rfl, congrArg (fun z => some (Value.int z)) ?_⟩
    show _ = (if x.toInt = 0 then Int32.ofNat a else if x.toInt = 1 then Int32.ofNat b else Int32.ofNat t2)
    rw [if_neg (show ¬ x.toInt = 0 by omega), if_pos hv]; exact b1.1.2
  · skip
    refine g_lsw 38 rfl (by rw [hv]; rfl) ?_
    refine g_aload_n (i := 0) rfl rfl ?_
    refine g_getfield (v := .int (B 5)) rfl hS (by decide) rfl ?_
    refine g_ireturn (ty := .int) rfl rfl rfl ?_
    refine ⟨rfl, congrArg (fun z => some (Value.int z)) ?_⟩
    show _ = (if x.toInt = 0 then Int32.ofNat a else if x.toInt = 1 then Int32.ofNat b else Int32.ofNat t2)
    rw [if_neg (show ¬ x.toInt = 0 by omega), if_neg (show ¬ x.toInt = 1 by omega)]; exact b1.2
theorem s_two11 {d : Nat} {h : sHp} {ik tf : Int32} {R : Nat → Int32} {c : CF} {m : MF} {s : Sg} {B : Nat → Int32} {S1 S2 : Int64} {fc : Nat → Int32} {ff T : Nat → Int64} {x : Int32} (hd : 10 ≤ d) (h0 : h[0]? = some (cO ik tf)) (hR : h[43]? = some (rFc R)) (F : FC h 5 c) (g : gdF c s.1 s.2.1) (r : RB c m) (sI : sgI c s) (hS : h[38]? = some (sO B S1 S2)) (h39 : h[39]? = some (.inl (0, 644, .inl fc))) (h40 : h[40]? = some (.inl (1, 644, .inr (.inl ff)))) (h41 : h[41]? = some (.inl (1, 7, .inr (.inl T)))) (h2 : s.2.2 = 2) (hx : 0 ≤ x.toInt ∧ x.toInt ≤ 2) : sDo d 141 [.ref 0, .int x] h (fun rv h' => rv = some (.int (twA (twL m s (lsT s.1 s.2.1 true false) (none, 1000)) x.toInt)) ∧ vE h h') := by
  refine sDo_of1 (nL := 2) (L := [some (.ref 0), some (.int x)]) (by omega) rfl rfl ?_
  refine g_iload_n (i := 1) rfl rfl ?_
  have k_2 : (0 : Int32).toInt = 0 := rfl
  refine g_if_lt 23 rfl rfl (fun c_1 => ?_) (fun c_1 => ?_)
  · skip
    rw [i_lt, k_2] at c_1
    exfalso; omega
  · skip
    rw [i_lt, k_2] at c_1
    refine g_iload_n (i := 1) rfl rfl ?_
    refine g_iconst (n := 2) rfl ?_
    have k_4 : (Int32.ofInt 2).toInt = 2 := rfl
    refine g_icmp_gt 23 rfl rfl (fun c_3 => ?_) (fun c_3 => ?_)
    · skip
      rw [i_lt, k_4] at c_3
      exfalso; omega
    · skip
      rw [i_lt, k_4] at c_3
      refine g_aload_n (i := 0) rfl rfl ?_
      refine g_getfield (v := .ref 38) rfl h0 (by decide) rfl ?_
      refine g_aload_n (i := 0) rfl rfl ?_
      refine g_getfield (v := .ref 5) rfl h0 (by decide) rfl ?_
      refine g_virt1 rfl (by decide) rfl hS rfl (Nat.le_of_ble_eq_true rfl) (s_find2 (d := d - 1) (m := m) (s := s) (by omega) F g r sI h2 hS h39 h40 h41) (fun rv hz hq => ?_)
      obtain ⟨hv, E, B2, hS2, b2⟩ := hq
      have z0 := (E.2 0 (by decide)).trans h0
      have z43 := (E.2 43 (by decide)).trans hR
      have vz : vE h hz := ⟨E.1, fun q hq => E.2 q (by omega)⟩
      generalize twL m s (lsT s.1 s.2.1 true false) (none, 1000) = t at hv b2 ⊢
      rcases hv with ⟨rfl, ht⟩ | ⟨rfl, ht⟩
      · skip
        obtain ⟨⟨a, b⟩, ht⟩ : ∃ p, t.1 = some p := by
          cases e : t.1 with
          | none => exact absurd e ht
          | some p => exact ⟨p, rfl⟩
        refine g_if_ne 30 rfl rfl (fun _ => ?_) (fun hc => absurd hc (by decide))
        refine g_aload_n (i := 0) rfl rfl ?_
        refine g_getfield (v := .ref 38) rfl z0 (by decide) rfl ?_
        refine g_iload_n (i := 1) rfl rfl ?_
        refine g_virt1 (Qc := fun r h' => h' = hz ∧ r = some (.int (twA t x.toInt))) rfl (by decide) rfl hS2 rfl (Nat.le_of_ble_eq_true rfl) (s_best (by omega) hS2 b2 ht hx) (fun r hz hq9 => ?_)
        obtain ⟨rfl, rfl⟩ := hq9
        refine g_ireturn (ty := .int) rfl rfl rfl ?_
        exact ⟨rfl, vz⟩
      · skip
        refine g_if_ne 30 rfl rfl (fun hc => absurd hc (by decide)) (fun _ => ?_)
        refine g_aload_n (i := 0) rfl rfl ?_
        refine g_bipush (n := (-5)) rfl ?_
        refine g_virt1 (Qc := fun r h' => r = some (.int (-5)) ∧ h' = hz.set 43 (rFc (bump R 5))) rfl (by decide) rfl z0 rfl (Nat.le_of_ble_eq_true rfl) (s_refuse2 (X := 5) (by omega) z0 z43 rfl (by decide)) (fun r h9 hq9 => ?_)
        obtain ⟨rfl, rfl⟩ := hq9
        refine g_ireturn (ty := .int) rfl rfl rfl ?_
        refine ⟨?_, ⟨by rw [List.length_set]; exact vz.1, fun q hq => by rw [s_set_ne (by omega)]; exact vz.2 q hq⟩⟩
        unfold twA
        rw [ht]
theorem s_two11n {d : Nat} {h : sHp} {ik tf : Int32} {R : Nat → Int32} {c : CF} {s : Sg} {B : Nat → Int32} {S1 S2 : Int64} {fc : Nat → Int32} {ff T : Nat → Int64} {x : Int32} (hd : 10 ≤ d) (h0 : h[0]? = some (cO ik tf)) (hR : h[43]? = some (rFc R)) (F : FC h 5 c) (g : gdF c s.1 s.2.1) (sI : sgI c s) (hS : h[38]? = some (sO B S1 S2)) (h39 : h[39]? = some (.inl (0, 644, .inl fc))) (h40 : h[40]? = some (.inl (1, 644, .inr (.inl ff)))) (h41 : h[41]? = some (.inl (1, 7, .inr (.inl T)))) (hx : ¬ (s.2.2 = 2 ∧ 0 ≤ x.toInt ∧ x.toInt ≤ 2)) : sDo d 141 [.ref 0, .int x] h (fun rv h' => rv = some (.int (-5)) ∧ vE h h') := by
  have n5 := sI.2.2.2.2.2.2.2
  have e11 : (c.1 11).toInt = ((s.2.2 : Nat) : Int) := by rw [sI.2.2.1]; exact ofN_toInt (by omega)
  have en : (Int32.ofInt 2).toInt = 2 := rfl
  have fz : ∀ {d : Nat}, 3 ≤ d → ¬ s.2.2 = 2 → sDo d 97 [.ref 38, .ref 5] h (fun r h' => r = some (.int 0) ∧ vE h h' ∧ h'[43]? = some (rFc R)) := fun {d} hd hne => by
    refine sDo_of1 (nL := 4) (L := [some (.ref 38), some (.ref 5), none, none]) (by omega) rfl rfl ?_
    refine g_aload_n (i := 0) rfl rfl ?_
    refine g_sipush (n := 1000) rfl ?_
    refine g_virt1 rfl (by decide) rfl hS rfl (Nat.le_of_ble_eq_true rfl) (s_forget (d := d - 1) (x := (Int16.ofInt 1000).toInt32) (by omega) hS) (fun r h1 hq => ?_)
    obtain ⟨rfl, rfl⟩ := hq
    have FA := FC_out (q := 38) (x := sO (upd (upd (upd B 0 (Int32.ofInt (-1))) 4 (Int32.ofInt 0)) 5 (Int16.ofInt 1000).toInt32) S1 S2) F (by omega)
    refine g_aload_n (i := 1) rfl rfl ?_
    refine g_getfield (v := .int (c.1 11)) rfl FA.1 (by decide) rfl ?_
    refine g_iconst (n := 2) rfl ?_
    have k_2 : (Int32.ofInt 2).toInt = 2 := rfl
    refine g_icmp_eq 17 rfl rfl (fun c_1 => ?_) (fun c_1 => ?_)
    · skip
      rw [i_eq, e11, k_2] at c_1
      exfalso; omega
    · skip
      rw [i_eq, e11, k_2] at c_1
      refine g_iconst (n := 0) rfl ?_
      refine g_ireturn (ty := .boolean) rfl rfl (by decide) ?_
      exact ⟨rfl, ⟨List.length_set, fun q hq => s_set_ne (by omega)⟩, by rw [s_set_ne (by decide)]; exact hR⟩
  refine sDo_of1 (nL := 2) (L := [some (.ref 0), some (.int x)]) (by omega) rfl rfl ?_
  refine g_iload_n (i := 1) rfl rfl ?_
  have k_2 : (0 : Int32).toInt = 0 := rfl
  refine g_if_lt 23 rfl rfl (fun c_1 => ?_) (fun c_1 => ?_)
  · skip
    rw [i_lt, k_2] at c_1
    refine g_aload_n (i := 0) rfl rfl ?_
    refine g_bipush (n := (-5)) rfl ?_
    refine g_virt1 (Qc := fun r h' => r = some (.int (-5)) ∧ h' = h.set 43 (rFc (bump R 5))) rfl (by decide) rfl h0 rfl (Nat.le_of_ble_eq_true rfl) (s_refuse2 (X := 5) (by omega) h0 hR rfl (by decide)) (fun r h9 hq9 => ?_)
    obtain ⟨rfl, rfl⟩ := hq9
    refine g_ireturn (ty := .int) rfl rfl rfl ?_
    exact ⟨rfl, vE_43⟩
  · skip
    rw [i_lt, k_2] at c_1
    refine g_iload_n (i := 1) rfl rfl ?_
    refine g_iconst (n := 2) rfl ?_
    have k_4 : (Int32.ofInt 2).toInt = 2 := rfl
    refine g_icmp_gt 23 rfl rfl (fun c_3 => ?_) (fun c_3 => ?_)
    · skip
      rw [i_lt, k_4] at c_3
      refine g_aload_n (i := 0) rfl rfl ?_
      refine g_bipush (n := (-5)) rfl ?_
      refine g_virt1 (Qc := fun r h' => r = some (.int (-5)) ∧ h' = h.set 43 (rFc (bump R 5))) rfl (by decide) rfl h0 rfl (Nat.le_of_ble_eq_true rfl) (s_refuse2 (X := 5) (by omega) h0 hR rfl (by decide)) (fun r h9 hq9 => ?_)
      obtain ⟨rfl, rfl⟩ := hq9
      refine g_ireturn (ty := .int) rfl rfl rfl ?_
      exact ⟨rfl, vE_43⟩
    · skip
      rw [i_lt, k_4] at c_3
      refine g_aload_n (i := 0) rfl rfl ?_
      refine g_getfield (v := .ref 38) rfl h0 (by decide) rfl ?_
      refine g_aload_n (i := 0) rfl rfl ?_
      refine g_getfield (v := .ref 5) rfl h0 (by decide) rfl ?_
      refine g_virt1 rfl (by decide) rfl hS rfl (Nat.le_of_ble_eq_true rfl) (fz (d := d - 1) (by omega) (by omega)) (fun rv hz hq => ?_)
      obtain ⟨rfl, vz⟩ := hq
      have z0 := (vz.1.2 0 (by decide)).trans h0
      have z43 := vz.2
      refine g_if_ne 30 rfl rfl (fun hc => absurd hc (by decide)) (fun _ => ?_)
      refine g_aload_n (i := 0) rfl rfl ?_
      refine g_bipush (n := (-5)) rfl ?_
      refine g_virt1 (Qc := fun r h' => r = some (.int (-5)) ∧ h' = hz.set 43 (rFc (bump R 5))) rfl (by decide) rfl z0 rfl (Nat.le_of_ble_eq_true rfl) (s_refuse2 (X := 5) (by omega) z0 z43 rfl (by decide)) (fun r h9 hq9 => ?_)
      obtain ⟨rfl, rfl⟩ := hq9
      refine g_ireturn (ty := .int) rfl rfl rfl ?_
      exact ⟨rfl, ⟨by rw [List.length_set]; exact vz.1.1, fun q hq => by rw [s_set_ne (by omega)]; exact vz.1.2 q hq⟩⟩
theorem s_two12n {d : Nat} {h : sHp} {m : MF} {s : Sg} {R : Nat → Int32} {x : Int32} (hd : 4 ≤ d) (M : MC h m) (hR : h[61]? = some (rFc R)) (sJ : sgJ m.1 s) (hx : ¬ (s.2.2 = 2 ∧ 0 ≤ x.toInt ∧ x.toInt ≤ 2)) : sDo d 235 [.ref 60, .int x] h (qB m (-5)) := by
  have n5 := sJ.2.2.2.2.2.2.2
  have e6 : (m.1 6).toInt = ((s.2.2 : Nat) : Int) := by rw [sJ.2.2.1]; exact ofN_toInt (by omega)
  have en : (Int32.ofInt 2).toInt = 2 := rfl
  refine sDo_of1 (nL := 5) (L := [some (.ref 60), some (.int x), none, none, none]) (by omega) rfl rfl ?_
  refine g_aload_n (i := 0) rfl rfl ?_
  refine g_getfield (v := .int (m.1 6)) rfl M.1 (by decide) rfl ?_
  refine g_iconst (n := 2) rfl ?_
  have k_2 : (Int32.ofInt 2).toInt = 2 := rfl
  refine g_icmp_ne 17 rfl rfl (fun c_1 => ?_) (fun c_1 => ?_)
  · skip
    rw [i_eq, e6, k_2] at c_1
    refine g_aload_n (i := 0) rfl rfl ?_
    refine g_bipush (n := (-5)) rfl ?_
    refine g_virt1 (Qc := fun r h' => r = some (.int ((Int8.ofInt (-5)).toInt32)) ∧ h' = h.set 61 (rFc (bump R 5))) rfl (by decide) rfl M.1 rfl (Nat.le_of_ble_eq_true rfl) (s_no2 (X := 5) (by omega) M.1 hR rfl (by decide)) (fun r h9 hq9 => ?_)
    obtain ⟨rfl, rfl⟩ := hq9
    refine g_ireturn (ty := .int) rfl rfl rfl ?_
    exact ⟨rfl, m.2.2.1, by rw [s_set_ne (by decide)]; exact M.2.2.1, fun _ _ => rfl⟩
  · skip
    rw [i_eq, e6, k_2] at c_1
    refine g_iload_n (i := 1) rfl rfl ?_
    have k_4 : (0 : Int32).toInt = 0 := rfl
    refine g_if_lt 17 rfl rfl (fun c_3 => ?_) (fun c_3 => ?_)
    · skip
      rw [i_lt, k_4] at c_3
      refine g_aload_n (i := 0) rfl rfl ?_
      refine g_bipush (n := (-5)) rfl ?_
      refine g_virt1 (Qc := fun r h' => r = some (.int ((Int8.ofInt (-5)).toInt32)) ∧ h' = h.set 61 (rFc (bump R 5))) rfl (by decide) rfl M.1 rfl (Nat.le_of_ble_eq_true rfl) (s_no2 (X := 5) (by omega) M.1 hR rfl (by decide)) (fun r h9 hq9 => ?_)
      obtain ⟨rfl, rfl⟩ := hq9
      refine g_ireturn (ty := .int) rfl rfl rfl ?_
      exact ⟨rfl, m.2.2.1, by rw [s_set_ne (by decide)]; exact M.2.2.1, fun _ _ => rfl⟩
    · skip
      rw [i_lt, k_4] at c_3
      refine g_iload_n (i := 1) rfl rfl ?_
      refine g_iconst (n := 2) rfl ?_
      refine g_icmp_le 24 rfl rfl (fun c_5 => ?_) (fun c_5 => ?_)
      · skip
        rw [i_le, k_2] at c_5
        exfalso; omega
      · skip
        rw [i_le, k_2] at c_5
        refine g_aload_n (i := 0) rfl rfl ?_
        refine g_bipush (n := (-5)) rfl ?_
        refine g_virt1 (Qc := fun r h' => r = some (.int ((Int8.ofInt (-5)).toInt32)) ∧ h' = h.set 61 (rFc (bump R 5))) rfl (by decide) rfl M.1 rfl (Nat.le_of_ble_eq_true rfl) (s_no2 (X := 5) (by omega) M.1 hR rfl (by decide)) (fun r h9 hq9 => ?_)
        obtain ⟨rfl, rfl⟩ := hq9
        refine g_ireturn (ty := .int) rfl rfl rfl ?_
        exact ⟨rfl, m.2.2.1, by rw [s_set_ne (by decide)]; exact M.2.2.1, fun _ _ => rfl⟩
theorem trial_of {h : sHp} (hH : bH h) : ∃ T : Nat → Int64, h[41]? = some (.inl (1, 7, .inr (.inl T))) := bA60L hH (p := 41) (by decide) rfl
theorem pr9_two (x : Int32) : pairR bR9 141 235 [.int x] := pr_oR (c1 := cn_X11_two_0) (c2 := cn_X12_two_0) ch_X11_two_0 ch_X12_two_0 (by decide +kernel) (by decide +kernel) (by decide +kernel) (by decide +kernel) rfl rfl (fun h hH => ⟨bt0 hH, vI0 x, trivial⟩) (fun h hH => ⟨bt60 hH, vI0 x, trivial⟩) (by decide +kernel) (by decide +kernel) (fun h hH hR => by
  obtain ⟨⟨hd, so, sz, co, cl, f, gg, q4, bs⟩, c, ck, m, gk, ik, tf, kc, km, ej, rl, rk⟩ := hR
  have F := kc.1
  have h0 := kc.2.2.1
  have M := km.1
  obtain ⟨R, hR43⟩ := RA_of hH (p := 43) (Or.inl rfl)
  obtain ⟨s, sI, sJ, g, gM⟩ := RN_sg rl.1.1
  have n5 := sI.2.2.2.2.2.2.2
  have hn := gdF_n g
  have PO := rl.2 s sI
  obtain ⟨B, S1, S2, fc, ff, s38, s39, s40⟩ := SO_of2 hH
  obtain ⟨T, s41⟩ := trial_of hH
  by_cases hx : s.2.2 = 2 ∧ 0 ≤ x.toInt ∧ x.toInt ≤ 2
  · refine ⟨_, m.2.2.1, M.2.2.1, sDo_mono (s_two11 (d := 10) (m := m) (by omega) h0 hR43 F g rl.1 sI s38 s39 s40 s41 hx.1 hx.2) (fun r h' q => q), fun h1 hH1 E => ?_⟩
    obtain ⟨Rm, hRm⟩ := RA_of hH1 (p := 61) (Or.inr rfl)
    obtain ⟨fc1, f76, -, -⟩ := bA60 hH1 (p := 76) (by decide) rfl
    obtain ⟨sp1, f77, -, -⟩ := bA60 hH1 (p := 77) (by decide) rfl
    exact s_two12 (d := 10) (by omega) (MC_vE M E) hRm gM g rl.1 sI sJ f76 f77 hx.1 hx.2
  · refine ⟨_, m.2.2.1, M.2.2.1, sDo_mono (s_two11n (d := 10) (by omega) h0 hR43 F g sI s38 s39 s40 s41 hx) (fun r h' q => q), fun h1 hH1 E => ?_⟩
    obtain ⟨Rm, hRm⟩ := RA_of hH1 (p := 61) (Or.inr rfl)
    exact s_two12n (d := 10) (by omega) (MC_vE M E) hRm sJ hx)
end
section
/-! ===== the best cuts into three ===== -/
def ow3 (W C D : Nat) : Nat → Int32 := fun q => if isF W C q = true then Int32.ofNat 0 else if isF W D q = true then Int32.ofNat 1 else Int32.ofNat 2
theorem ow3_in {W C D q : Nat} : ∃ k, k < 7 ∧ ow3 W C D q = cdS k := by
  unfold ow3
  by_cases z : isF W C q = true
  · rw [if_pos z]; exact ⟨0, by decide, rfl⟩
  · rw [if_neg z]
    by_cases y : isF W D q = true
    · rw [if_pos y]; exact ⟨1, by decide, rfl⟩
    · rw [if_neg y]; exact ⟨2, by decide, rfl⟩
def set3 (T : Nat → Int64) (W n C D : Nat) : Nat → Int64 := vp_updL (vp_updL (vp_updL T 0 (fsS W n C)) 1 (fsS W n D &&& (fsS W n C ^^^ Int64.ofNat 18446744073709551615))) 2 ((stO (fun _ => true) n &&& (fsS W n C ^^^ Int64.ofNat 18446744073709551615)) &&& (fsS W n D ^^^ Int64.ofNat 18446744073709551615))
theorem set3_0 {T : Nat → Int64} {W n C D : Nat} (h : ∀ k, 3 ≤ k → k < 7 → T k = Int64.ofNat 0) : ∀ k, 3 ≤ k → k < 7 → set3 T W n C D k = Int64.ofNat 0 := fun k h2 h7 => by
  have e : set3 T W n C D k = T k := (if_neg (show ¬ k = 2 by omega)).trans ((if_neg (show ¬ k = 1 by omega)).trans (if_neg (show ¬ k = 0 by omega)))
  rw [e]
  exact h k h2 h7
theorem PT_three {T : Nat → Int64} {W n C D : Nat} (hn : n ≤ 64) (h : ∀ k, 3 ≤ k → k < 7 → T k = Int64.ofNat 0) : PT (set3 T W n C D) (ow3 W C D) n := by
  have dc : ∀ a, a < 7 → ∀ b, b < 7 → decide (cdS a = cdS b) = decide (a = b) := fun a ha b hb => decide_eq_decide.mpr ⟨fun z => cdS_inj ha hb z, fun z => by rw [z]⟩
  have c0 : Int32.ofNat 0 = cdS 0 := rfl
  have c1 : Int32.ofNat 1 = cdS 1 := rfl
  have c2 : Int32.ofNat 2 = cdS 2 := rfl
  have val : ∀ k, k < 7 → ∀ q, decide (ow3 W C D q = cdS k) = (if isF W C q = true then decide (0 = k) else if isF W D q = true then decide (1 = k) else decide (2 = k)) := fun k hk q => by
    unfold ow3
    rw [c0, c1, c2]
    by_cases z : isF W C q = true
    · rw [if_pos z, if_pos z]; exact dc 0 (by decide) k hk
    · rw [if_neg z, if_neg z]
      by_cases y : isF W D q = true
      · rw [if_pos y, if_pos y]; exact dc 1 (by decide) k hk
      · rw [if_neg y, if_neg y]; exact dc 2 (by decide) k hk
  refine ⟨fun k hk => ?_, fun q _ => ow3_in⟩
  rcases (show k = 0 ∨ k = 1 ∨ k = 2 ∨ 3 ≤ k by omega) with rfl | rfl | rfl | h3
  · have e : set3 T W n C D 0 = fsS W n C := rfl
    rw [e]
    unfold fsS
    refine stO_ext hn (fun q _ => ?_)
    rw [val 0 hk q]
    cases isF W C q <;> cases isF W D q <;> rfl
  · have e : set3 T W n C D 1 = fsS W n D &&& (fsS W n C ^^^ lM1) := rfl
    rw [e]
    unfold fsS
    refine st_andn hn (fun q _ => ?_)
    rw [val 1 hk q]
    cases isF W C q <;> cases isF W D q <;> rfl
  · have e : set3 T W n C D 2 = (stO (fun _ => true) n &&& (fsS W n C ^^^ lM1)) &&& (fsS W n D ^^^ lM1) := rfl
    rw [e]
    unfold fsS
    rw [st_andn (R := fun q => !isF W C q) hn (fun q _ => by cases isF W C q <;> rfl)]
    refine st_andn hn (fun q _ => ?_)
    rw [val 2 hk q]
    cases isF W C q <;> cases isF W D q <;> rfl
  · rw [set3_0 h k h3 hk]
    refine (stO_no hn (fun q _ => ?_)).symm
    rw [val k hk q, decide_eq_false (show ¬ 0 = k by omega), decide_eq_false (show ¬ 1 = k by omega), decide_eq_false (show ¬ 2 = k by omega)]
    cases isF W C q <;> cases isF W D q <;> rfl
noncomputable def thI (m : MF) (s : Sg) (C : Nat) : List Nat → T3 → T3
  | [], t => t
  | D :: L, t => thI m s C L (trS m s C D (ow3 s.1 C D) t)
noncomputable def thL (m : MF) (s : Sg) (L : List Nat) : List Nat → T3 → T3
  | [], t => t
  | C :: R, t => thL m s L R (thI m s C L t)
theorem thI_le {m : MF} {s : Sg} {C : Nat} : ∀ {L : List Nat} {t : T3}, t.2 ≤ 1000 → (thI m s C L t).2 ≤ 1000 := by
  intro L
  induction L with
  | nil => intro t h; exact h
  | cons D L ih => intro t h; exact ih (trS_le h)
theorem thL_le {m : MF} {s : Sg} {L : List Nat} : ∀ {R : List Nat} {t : T3}, t.2 ≤ 1000 → (thL m s L R t).2 ≤ 1000 := by
  intro R
  induction R with
  | nil => intro t h; exact h
  | cons C R ih => intro t h; exact ih (thI_le h)
theorem thI_J {m : MF} {s : Sg} {J2 : Nat → Int32} {C : Nat} (hj : ∀ j, j < 7 → J2 j = m.1 j) : ∀ (L : List Nat) (t : T3), thI ((J2, m.2) : MF) s C L t = thI m s C L t := by
  intro L
  induction L with
  | nil => intro t; rfl
  | cons D L ih =>
    intro t
    show thI ((J2, m.2) : MF) s C L (trS ((J2, m.2) : MF) s C D (ow3 s.1 C D) t) = thI m s C L (trS m s C D (ow3 s.1 C D) t)
    rw [trS_J hj, ih]
theorem thL_J {m : MF} {s : Sg} {J2 : Nat → Int32} {L : List Nat} (hj : ∀ j, j < 7 → J2 j = m.1 j) : ∀ (R : List Nat) (t : T3), thL ((J2, m.2) : MF) s L R t = thL m s L R t := by
  intro R
  induction R with
  | nil => intro t; rfl
  | cons C R ih =>
    intro t
    show thL ((J2, m.2) : MF) s L R (thI ((J2, m.2) : MF) s C L t) = thL m s L R (thI m s C L t)
    rw [thI_J hj, ih]
/-- the first heir's own piece alone -/
def S0 (x : Int64) : Nat → Int64 := fun k => if k = 0 then x else Int64.ofNat 0
theorem fltP_0 {m : MF} {s : Sg} {S : Nat → Int64} {x : Int64} (h0 : S 0 = x) (h5 : S 5 = Int64.ofNat 0) (f : Nat) : fltP m s S f 0 ↔ fltP m s (S0 x) f 0 := by
  unfold fltP
  rw [h0, h5]
  exact Iff.rfl
theorem vdG_some {F : Nat → Nat → Prop} {N : Nat} (hN : 1 ≤ N) {f : Nat} (hF : F f 0) : ∀ k f0, f0 ≤ f → f < f0 + k → vdG F N k f0 ≠ none := by
  intro k
  induction k with
  | zero => intro f0 h1 h2; omega
  | succ k ih =>
    intro f0 h1 h2
    show vdT (fst1 (F f0) N 0) f0 (vdG F N k (f0 + 1)) ≠ none
    cases e : fst1 (F f0) N 0 with
    | some i => intro z; cases z
    | none =>
      by_cases y : f0 = f
      · subst y
        obtain ⟨M, rfl⟩ : ∃ M, N = M + 1 := ⟨N - 1, by omega⟩
        rw [fst1_y hF] at e
        cases e
      · exact ih (f0 + 1) (by omega) (by omega)
theorem st3_0 {W n C D : Nat} (hn : n ≤ 64) : ST (ow3 W C D) n 0 = fsS W n C ∧ ST (ow3 W C D) n 5 = Int64.ofNat 0 ∧ ST (ow3 W C D) n 6 = Int64.ofNat 0 := by
  have P := PT_three (T := fun _ => Int64.ofNat 0) (W := W) (n := n) (C := C) (D := D) hn (fun _ _ _ => rfl)
  exact ⟨(P.1 0 (by decide)).symm, (P.1 5 (by decide)).symm, (P.1 6 (by decide)).symm⟩
/-- where the first heir has a fault, no other cut helps -/
theorem th_skip {m : MF} {s : Sg} {C : Nat} (hn : s.1 * s.2.1 ≤ 64) (hN : 1 ≤ s.2.2) (h : ∃ f, 2 ≤ f ∧ f ≤ 5 ∧ fltP m s (S0 (fsS s.1 (s.1 * s.2.1) C)) f 0) : ∀ (L : List Nat) (t : T3), thI m s C L t = t := by
  obtain ⟨f, h2, h5, hF⟩ := h
  intro L
  induction L with
  | nil => intro t; rfl
  | cons D L ih =>
    intro t
    obtain ⟨e0, e5, e6⟩ := st3_0 (W := s.1) (C := C) (D := D) hn
    have no : ¬ vdA m s (ST (ow3 s.1 C D) (s.1 * s.2.1)) = none := by
      unfold vdA
      rw [if_pos e6]
      exact vdG_some hN ((fltP_0 e0 e5 f).mpr hF) 4 2 h2 (by omega)
    show thI m s C L (trS m s C D (ow3 s.1 C D) t) = t
    have e : trS m s C D (ow3 s.1 C D) t = t := tS_n (fun z => no z.2)
    rw [e, ih]
theorem s_cont_go {d : Nat} {h : sHp} {c : CF} {m : MF} {s : Sg} {x : Int64} (hd : 6 ≤ d) (F : FC h 5 c) (g : gdF c s.1 s.2.1) (r : RB c m) (sI : sgI c s) (hN : 0 < s.2.2) (hx : inN x (s.1 * s.2.1)) : ∀ (gg f : Nat), f + gg = 6 → 2 ≤ f → (∀ f', 2 ≤ f' → f' < f → ¬ fltP m s (S0 x) f' 0) → sGo none 50 d 3 [some (.ref 5), some (.int (Int32.ofInt 0)), some (.long x), none, some (.int (Int32.ofNat f))] [] h (fun r h' => h' = h ∧ ((∀ f, 2 ≤ f → f ≤ 5 → ¬ fltP m s (S0 x) f 0) ∧ r = some (.int 1) ∨ (∃ f, 2 ≤ f ∧ f ≤ 5 ∧ fltP m s (S0 x) f 0) ∧ r = some (.int 0))) := by
  have e5 : (Int32.ofInt 5).toInt = 5 := rfl
  intro gg
  induction gg with
  | zero =>
    intro f hf h2 no
    have f6 : f = 6 := by omega
    subst f6
    refine g_iload (i := 4) rfl rfl ?_
    refine g_iconst (n := 5) rfl ?_
    refine g_icmp_gt 29 rfl rfl (fun _ => ?_) (fun hc => absurd hc (by exact fun z => z (by decide)))
    refine g_iconst (n := 1) rfl ?_
    refine g_ireturn (ty := .boolean) rfl rfl (by decide) ?_
    exact ⟨rfl, Or.inl ⟨fun f a b => no f a (by omega), rfl⟩⟩
  | succ gg ih =>
    intro f hf h2 no
    have ef := ofN_toInt (n := f) (by omega)
    have key := s_hasFault (d := d) (S := S0 x) (i := 0) (f := f) (m := m) hd F g r sI hN hx (fun i _ z => by rw [show S0 x 5 = Int64.ofNat 0 from rfl, bt_0] at z; cases z) (fun i _ _ => by rw [show S0 x 5 = Int64.ofNat 0 from rfl]; exact bt_0 i) ⟨h2, by omega⟩
    refine g_iload (i := 4) rfl rfl ?_
    refine g_iconst (n := 5) rfl ?_
    refine g_icmp_gt 29 rfl rfl (fun hc => absurd hc (by rw [i_lt, ef, e5]; omega)) (fun _ => ?_)
    refine g_aload_n (i := 0) rfl rfl ?_
    refine g_iload (i := 4) rfl rfl ?_
    refine g_iload_n (i := 1) rfl rfl ?_
    refine g_lload_n (i := 2) rfl rfl ?_
    refine g_lconst (n := 0) rfl ?_
    show sGo none 50 _ 15 [some (.ref 5), some (.int (Int32.ofInt 0)), some (.long x), none, some (.int (Int32.ofNat f))] [.long (Int64.ofNat 0), .long x, .int (Int32.ofInt 0), .int (Int32.ofNat f), .ref 5] _ _
    refine g_virt4 (Qc := fun r h' => h' = h ∧ (((fltP m s (S0 x) f 0) ∧ r = some (.int 1)) ∨ (¬ (fltP m s (S0 x) f 0) ∧ r = some (.int 0)))) rfl (by decide) rfl F.1 rfl (Nat.le_of_ble_eq_true rfl) (key) (fun r h hq9 => ?_)
    obtain ⟨rfl, ⟨c_1, rfl⟩ | ⟨c_1, rfl⟩⟩ := hq9
    · skip
      refine g_if_eq 23 rfl rfl (fun hc => absurd hc (by decide)) (fun _ => ?_)
      refine g_iconst (n := 0) rfl ?_
      refine g_ireturn (ty := .boolean) rfl rfl (by decide) ?_
      exact ⟨rfl, Or.inr ⟨⟨f, h2, by omega, c_1⟩, rfl⟩⟩
    · skip
      refine g_if_eq 23 rfl rfl (fun _ => ?_) (fun hc => absurd hc (by decide))
      refine g_iinc (i := 4) (L1 := [some (.ref 5), some (.int (Int32.ofInt 0)), some (.long x), none, some (.int ((Int32.ofNat f) + Int32.ofInt 1))]) rfl rfl rfl ?_
      rw [ofN_add (by omega)]
      refine g_goto 3 rfl rfl ?_
      exact ih (f + 1) (by omega) (by omega) (fun f' a b => by
        by_cases e : f' = f
        · rw [e]; exact c_1
        · exact no f' a (by omega))
theorem s_content11 {d : Nat} {h : sHp} {c : CF} {m : MF} {s : Sg} {x : Int64} (hd : 7 ≤ d) (F : FC h 5 c) (g : gdF c s.1 s.2.1) (r : RB c m) (sI : sgI c s) (hN : 0 < s.2.2) (hx : inN x (s.1 * s.2.1)) : sDo d 50 [.ref 5, .int (Int32.ofInt 0), .long x] h (fun r h' => h' = h ∧ ((∀ f, 2 ≤ f → f ≤ 5 → ¬ fltP m s (S0 x) f 0) ∧ r = some (.int 1) ∨ (∃ f, 2 ≤ f ∧ f ≤ 5 ∧ fltP m s (S0 x) f 0) ∧ r = some (.int 0))) := by
  refine sDo_of1 (nL := 5) (L := [some (.ref 5), some (.int (Int32.ofInt 0)), some (.long x), none, none]) (by omega) rfl rfl ?_
  refine g_iconst (n := 2) rfl ?_
  refine g_istore (i := 4) (L1 := [some (.ref 5), some (.int (Int32.ofInt 0)), some (.long x), none, some (.int (Int32.ofInt 2))]) rfl (Nat.le_of_ble_eq_true rfl) rfl ?_
  exact s_cont_go (d := d - 1) (by omega) F g r sI hN hx 4 2 (by decide) (by decide) (fun f' a b => by omega)
def thV (h0 h : sHp) (c : CF) (L : List Nat) (fc : Nat → Int32) (ff : Nat → Int64) (S1 S2 : Int64) (B : Nat → Int32) (T : Nat → Int64) (t : T3) : Prop := FC h 5 c ∧ h[38]? = some (sO B S1 S2) ∧ B 6 = Int32.ofNat L.length ∧ bsC B t ∧ t.2 ≤ 1000 ∧ cdI t ∧ h[39]? = some (.inl (0, 644, .inl fc)) ∧ h[40]? = some (.inl (1, 644, .inr (.inl ff))) ∧ h[41]? = some (.inl (1, 7, .inr (.inl T))) ∧ (∀ k, 3 ≤ k → k < 7 → T k = Int64.ofNat 0) ∧ tcE h0 h
theorem s_three11_in {d : Nat} {h0 : sHp} {c : CF} {m : MF} {s : Sg} {L : List Nat} {fc : Nat → Int32} {ff : Nat → Int64} {S1 S2 : Int64} {C i1 : Nat} {fin : T3} {Q : Option Value → sHp → Prop} (hd : 8 ≤ d) (g : gdF c s.1 s.2.1) (r : RB c m) (sI : sgI c s) (hk : ∀ C ∈ L, C < 7000 ∧ ¬ C / 1000 = 3) (hl : L.length ≤ 644) (p1 : ∀ j C, L[j]? = some C → fc j = Int32.ofNat C) (p2 : ∀ j C, L[j]? = some C → ff j = fsS s.1 (s.1 * s.2.1) C) (hat1 : L[i1]? = some C) (hi1 : i1 < L.length) (hQ : ∀ (B : Nat → Int32) (T : Nat → Int64) (h : sHp) (o3 : Option Value), thV h0 h c L fc ff S1 S2 B T fin → sGo none 98 d 158 [some (.ref 38), some (.ref 5), some (.int (Int32.ofNat i1)), o3] [] h Q) : ∀ (R P : List Nat) (t : T3) (B : Nat → Int32) (T : Nat → Int64) (h : sHp), L = P ++ R → thV h0 h c L fc ff S1 S2 B T t → thI m s C R t = fin → sGo none 98 d 60 [some (.ref 38), some (.ref 5), some (.int (Int32.ofNat i1)), some (.int (Int32.ofNat P.length))] [] h Q := by
  have hn := gdF_n g
  have n5 := sI.2.2.2.2.2.2.2
  have g2 : c.2.1 2 = stO (fun _ => true) (s.1 * s.2.1) := g.2.2.2.2.2.2.1
  have ei := ofN_toInt (n := i1) (by omega)
  have hC := hk C (List.mem_of_getElem? hat1)
  have hff1 := p2 i1 C hat1
  have hfc1 := p1 i1 C hat1
  intro R
  induction R with
  | nil =>
    intro P t B T h hL V hf
    rw [List.append_nil] at hL
    subst hL
    have hf : t = fin := hf
    subst hf
    have V' := V
    obtain ⟨F, hS, b6, b, ht, hc, h39, h40, h41, hT, E⟩ := V
    have el := ofN_toInt (n := L.length) (by omega)
    have e6 : (B 6).toInt = ((L.length : Nat) : Int) := by rw [b6]; exact el
    refine g_iload_n (i := 3) rfl rfl ?_
    refine g_aload_n (i := 0) rfl rfl ?_
    refine g_getfield (v := .int (B 6)) rfl hS (by decide) rfl ?_
    refine g_icmp_ge 158 rfl rfl (fun _ => ?_) (fun hc => absurd hc (by rw [i_le, e6, el]; omega))
    exact hQ _ _ _ _ V'
  | cons D R ih =>
    intro P t B T h hL V hf
    obtain ⟨hat, hL2, hP1, hlen⟩ := two_go hL
    obtain ⟨F, hS, b6, b, ht, hc, h39, h40, h41, hT, E⟩ := V
    have el := ofN_toInt (n := P.length) (by omega)
    have e6 : (B 6).toInt = ((L.length : Nat) : Int) := by rw [b6]; exact ofN_toInt (by omega)
    have hD := hk D (by rw [hL]; exact List.mem_append_right _ (List.mem_cons_self ..))
    have hff := p2 P.length D hat
    have hfc := p1 P.length D hat
    have ez : (Int32.ofInt 0).toInt = ((0 : Nat) : Int) := rfl
    have eo : (Int32.ofInt 1).toInt = ((1 : Nat) : Int) := rfl
    have et : (Int32.ofInt 2).toInt = ((2 : Nat) : Int) := rfl
    refine g_iload_n (i := 3) rfl rfl ?_
    refine g_aload_n (i := 0) rfl rfl ?_
    refine g_getfield (v := .int (B 6)) rfl hS (by decide) rfl ?_
    refine g_icmp_ge 158 rfl rfl (fun hc => absurd hc (by rw [i_le, e6, el]; omega)) (fun _ => ?_)
    refine g_aload_n (i := 0) rfl rfl ?_
    refine g_getfield (v := .ref 41) rfl hS (by decide) rfl ?_
    refine g_iconst (n := 0) rfl ?_
    refine g_aload_n (i := 0) rfl rfl ?_
    refine g_getfield (v := .ref 40) rfl hS (by decide) rfl ?_
    refine g_iload_n (i := 2) rfl rfl ?_
    refine g_laload (n := 644) (f := ff) rfl h40 (i_in (by omega) (by omega)) ?_
    rw [i_nat ei, hff1]
    refine g_lastore (n := 7) (f := T) (h1 := h.set 41 (.inl (1, 7, .inr (.inl (vp_updL T 0 (fsS s.1 (s.1 * s.2.1) C)))))) rfl h41 (i_in (by rw [ez]; decide) (by rw [ez]; decide)) (by rw [i_nat ez] <;> rfl) ?_
    have FA0 := FC_out (q := 41) (x := (.inl (1, 7, .inr (.inl (vp_updL T 0 (fsS s.1 (s.1 * s.2.1) C)))))) F (by omega)
    have SA0 : (h.set 41 (.inl (1, 7, .inr (.inl (vp_updL T 0 (fsS s.1 (s.1 * s.2.1) C))))))[38]? = some (sO B S1 S2) := by rw [s_set_ne (by decide)]; exact hS
    have TA0 : (h.set 41 (.inl (1, 7, .inr (.inl (vp_updL T 0 (fsS s.1 (s.1 * s.2.1) C))))))[41]? = some (.inl (1, 7, .inr (.inl (vp_updL T 0 (fsS s.1 (s.1 * s.2.1) C))))) := s_set_eq h41
    refine g_aload_n (i := 0) rfl rfl ?_
    refine g_getfield (v := .ref 41) rfl SA0 (by decide) rfl ?_
    refine g_iconst (n := 1) rfl ?_
    refine g_aload_n (i := 0) rfl rfl ?_
    refine g_getfield (v := .ref 40) rfl SA0 (by decide) rfl ?_
    refine g_iload_n (i := 3) rfl rfl ?_
    refine g_laload (n := 644) (f := ff) rfl (by rw [s_set_ne (by decide)]; exact h40) (i_in (by omega) (by omega)) ?_
    rw [i_nat el, hff]
    refine g_aload_n (i := 0) rfl rfl ?_
    refine g_getfield (v := .ref 40) rfl SA0 (by decide) rfl ?_
    refine g_iload_n (i := 2) rfl rfl ?_
    refine g_laload (n := 644) (f := ff) rfl (by rw [s_set_ne (by decide)]; exact h40) (i_in (by omega) (by omega)) ?_
    rw [i_nat ei, hff1]
    refine g_ldc2_w (j := 18446744073709551615) rfl ?_
    refine g_lxor rfl ?_
    refine g_land rfl ?_
    refine g_lastore (n := 7) (f := (vp_updL T 0 (fsS s.1 (s.1 * s.2.1) C))) (h1 := h.set 41 (.inl (1, 7, .inr (.inl (vp_updL (vp_updL T 0 (fsS s.1 (s.1 * s.2.1) C)) 1 ((fsS s.1 (s.1 * s.2.1) D) &&& ((fsS s.1 (s.1 * s.2.1) C) ^^^ Int64.ofNat 18446744073709551615))))))) rfl TA0 (i_in (by rw [eo]; decide) (by rw [eo]; decide)) (by rw [i_nat eo, List.set_set] <;> rfl) ?_
    have FA1 := FC_out (q := 41) (x := (.inl (1, 7, .inr (.inl (vp_updL (vp_updL T 0 (fsS s.1 (s.1 * s.2.1) C)) 1 ((fsS s.1 (s.1 * s.2.1) D) &&& ((fsS s.1 (s.1 * s.2.1) C) ^^^ Int64.ofNat 18446744073709551615))))))) F (by omega)
    have SA1 : (h.set 41 (.inl (1, 7, .inr (.inl (vp_updL (vp_updL T 0 (fsS s.1 (s.1 * s.2.1) C)) 1 ((fsS s.1 (s.1 * s.2.1) D) &&& ((fsS s.1 (s.1 * s.2.1) C) ^^^ Int64.ofNat 18446744073709551615)))))))[38]? = some (sO B S1 S2) := by rw [s_set_ne (by decide)]; exact hS
    have TA1 : (h.set 41 (.inl (1, 7, .inr (.inl (vp_updL (vp_updL T 0 (fsS s.1 (s.1 * s.2.1) C)) 1 ((fsS s.1 (s.1 * s.2.1) D) &&& ((fsS s.1 (s.1 * s.2.1) C) ^^^ Int64.ofNat 18446744073709551615)))))))[41]? = some (.inl (1, 7, .inr (.inl (vp_updL (vp_updL T 0 (fsS s.1 (s.1 * s.2.1) C)) 1 ((fsS s.1 (s.1 * s.2.1) D) &&& ((fsS s.1 (s.1 * s.2.1) C) ^^^ Int64.ofNat 18446744073709551615)))))) := s_set_eq h41
    refine g_aload_n (i := 0) rfl rfl ?_
    refine g_getfield (v := .ref 41) rfl SA1 (by decide) rfl ?_
    refine g_iconst (n := 2) rfl ?_
    refine g_aload_n (i := 1) rfl rfl ?_
    refine g_getfield (v := .long (c.2.1 2)) rfl FA1.1 (by decide) rfl ?_
    rw [g2]
    refine g_aload_n (i := 0) rfl rfl ?_
    refine g_getfield (v := .ref 40) rfl SA1 (by decide) rfl ?_
    refine g_iload_n (i := 2) rfl rfl ?_
    refine g_laload (n := 644) (f := ff) rfl (by rw [s_set_ne (by decide)]; exact h40) (i_in (by omega) (by omega)) ?_
    rw [i_nat ei, hff1]
    refine g_ldc2_w (j := 18446744073709551615) rfl ?_
    refine g_lxor rfl ?_
    refine g_land rfl ?_
    refine g_aload_n (i := 0) rfl rfl ?_
    refine g_getfield (v := .ref 40) rfl SA1 (by decide) rfl ?_
    refine g_iload_n (i := 3) rfl rfl ?_
    refine g_laload (n := 644) (f := ff) rfl (by rw [s_set_ne (by decide)]; exact h40) (i_in (by omega) (by omega)) ?_
    rw [i_nat el, hff]
    refine g_ldc2_w (j := 18446744073709551615) rfl ?_
    refine g_lxor rfl ?_
    refine g_land rfl ?_
    refine g_lastore (n := 7) (f := (vp_updL (vp_updL T 0 (fsS s.1 (s.1 * s.2.1) C)) 1 ((fsS s.1 (s.1 * s.2.1) D) &&& ((fsS s.1 (s.1 * s.2.1) C) ^^^ Int64.ofNat 18446744073709551615)))) (h1 := h.set 41 (.inl (1, 7, .inr (.inl (set3 T s.1 (s.1 * s.2.1) C D))))) rfl TA1 (i_in (by rw [et]; decide) (by rw [et]; decide)) (by rw [i_nat et, List.set_set] <;> rfl) ?_
    have FA2 := FC_out (q := 41) (x := (.inl (1, 7, .inr (.inl (set3 T s.1 (s.1 * s.2.1) C D))))) F (by omega)
    have SA2 : (h.set 41 (.inl (1, 7, .inr (.inl (set3 T s.1 (s.1 * s.2.1) C D)))))[38]? = some (sO B S1 S2) := by rw [s_set_ne (by decide)]; exact hS
    have TA2 : (h.set 41 (.inl (1, 7, .inr (.inl (set3 T s.1 (s.1 * s.2.1) C D)))))[41]? = some (.inl (1, 7, .inr (.inl (set3 T s.1 (s.1 * s.2.1) C D)))) := s_set_eq h41
    refine g_aload_n (i := 0) rfl rfl ?_
    refine g_aload_n (i := 1) rfl rfl ?_
    refine g_aload_n (i := 0) rfl rfl ?_
    refine g_getfield (v := .ref 39) rfl SA2 (by decide) rfl ?_
    refine g_iload_n (i := 2) rfl rfl ?_
    refine g_iaload (n := 644) (f := fc) rfl (by rw [s_set_ne (by decide)]; exact h39) (i_in (by omega) (by omega)) ?_
    rw [i_nat ei, hfc1]
    refine g_aload_n (i := 0) rfl rfl ?_
    refine g_getfield (v := .ref 39) rfl SA2 (by decide) rfl ?_
    refine g_iload_n (i := 3) rfl rfl ?_
    refine g_iaload (n := 644) (f := fc) rfl (by rw [s_set_ne (by decide)]; exact h39) (i_in (by omega) (by omega)) ?_
    rw [i_nat el, hfc]
    have PB := PT_three (T := T) (W := s.1) (n := (s.1 * s.2.1)) (C := C) (D := D) hn.1 hT
    refine g_virt3 rfl (by decide) rfl SA2 rfl (Nat.le_of_ble_eq_true rfl) (s_try11 (d := d) (C := C) (C2 := D) (t := t) (m := m) (by omega) FA2 g r sI SA2 TA2 PB ht b rfl rfl) (fun r2 h2 hq => ?_)
    obtain ⟨rfl, B2, hS2, b62, b2, E2⟩ := hq
    rw [vdA_PT n5 PB] at b2
    have b2 : bsC B2 (trS m s C D (ow3 s.1 C D) t) := b2
    have V2 : thV h0 h2 c L fc ff S1 S2 B2 (set3 T s.1 (s.1 * s.2.1) C D) (trS m s C D (ow3 s.1 C D) t) := ⟨FC_tr FA2 (fun q x h1 h2 hx => (E2.2 q (by omega)).trans hx), hS2, b62.trans b6, b2, trS_le ht, cdI_tr hc (by omega), (E2.2 39 (by decide)).trans (by rw [s_set_ne (by decide)]; exact h39), (E2.2 40 (by decide)).trans (by rw [s_set_ne (by decide)]; exact h40), (E2.2 41 (by decide)).trans TA2, set3_0 hT, tcE_38 (tcE_set (x := (.inl (1, 7, .inr (.inl (set3 T s.1 (s.1 * s.2.1) C D))))) E (by decide)) E2⟩
    refine g_iinc (i := 3) (L1 := [some (.ref 38), some (.ref 5), some (.int (Int32.ofNat i1)), some (.int (Int32.ofNat P.length + Int32.ofInt 1))]) rfl rfl rfl ?_
    rw [ofN_add (by omega)]
    refine g_goto 60 rfl rfl ?_
    have key := ih (P ++ [D]) _ _ _ _ hL2 V2 hf
    rw [hP1] at key
    exact key
theorem s_three11_go {d : Nat} {h0 : sHp} {c : CF} {m : MF} {s : Sg} {L : List Nat} {fc : Nat → Int32} {ff : Nat → Int64} {S1 S2 : Int64} (hd : 8 ≤ d) (hN : 0 < s.2.2) (g : gdF c s.1 s.2.1) (r : RB c m) (sI : sgI c s) (hk : ∀ C ∈ L, C < 7000 ∧ ¬ C / 1000 = 3) (hl : L.length ≤ 644) (p1 : ∀ j C, L[j]? = some C → fc j = Int32.ofNat C) (p2 : ∀ j C, L[j]? = some C → ff j = fsS s.1 (s.1 * s.2.1) C) : ∀ (R P : List Nat) (t : T3) (B : Nat → Int32) (T : Nat → Int64) (h : sHp) (o3 : Option Value), L = P ++ R → thV h0 h c L fc ff S1 S2 B T t → sGo none 98 d 33 [some (.ref 38), some (.ref 5), some (.int (Int32.ofNat P.length)), o3] [] h (fun rv h' => (rv = some (.int 1) ∧ (thL m s L R t).1 ≠ none ∨ rv = some (.int 0) ∧ (thL m s L R t).1 = none) ∧ tcE h0 h' ∧ ∃ B', h'[38]? = some (sO B' S1 S2) ∧ bsC B' (thL m s L R t)) := by
  have hn := gdF_n g
  have n5 := sI.2.2.2.2.2.2.2
  intro R
  induction R with
  | nil =>
    intro P t B T h o3 hL V
    rw [List.append_nil] at hL
    subst hL
    obtain ⟨F, hS, b6, b, ht, hc, h39, h40, h41, hT, E⟩ := V
    have el := ofN_toInt (n := L.length) (by omega)
    have e6 : (B 6).toInt = ((L.length : Nat) : Int) := by rw [b6]; exact el
    have e0 := bsC_n b hc
    refine g_iload_n (i := 2) rfl rfl ?_
    refine g_aload_n (i := 0) rfl rfl ?_
    refine g_getfield (v := .int (B 6)) rfl hS (by decide) rfl ?_
    refine g_icmp_ge 164 rfl rfl (fun _ => ?_) (fun hc => absurd hc (by rw [i_le, e6, el]; omega))
    refine g_aload_n (i := 0) rfl rfl ?_
    refine g_getfield (v := .int (B 0)) rfl hS (by decide) rfl ?_
    refine g_iconst (n := (-1)) rfl ?_
    refine g_icmp_eq 176 rfl rfl (fun c_1 => ?_) (fun c_1 => ?_)
    · skip
      refine g_iconst (n := 0) rfl ?_
      refine g_ireturn (ty := .boolean) rfl rfl (by decide) ?_
      exact ⟨Or.inr ⟨rfl, e0.mp c_1⟩, E, B, hS, b⟩
    · skip
      refine g_iconst (n := 1) rfl ?_
      refine g_goto 177 rfl rfl ?_
      refine g_ireturn (ty := .boolean) rfl rfl (by decide) ?_
      exact ⟨Or.inl ⟨rfl, fun z => c_1 (e0.mpr z)⟩, E, B, hS, b⟩
  | cons C R ih =>
    intro P t B T h o3 hL V
    obtain ⟨hat, hL2, hP1, hlen⟩ := two_go hL
    have V' := V
    obtain ⟨F, hS, b6, b, ht, hc, h39, h40, h41, hT, E⟩ := V
    have el := ofN_toInt (n := P.length) (by omega)
    have e6 : (B 6).toInt = ((L.length : Nat) : Int) := by rw [b6]; exact ofN_toInt (by omega)
    have hC := hk C (by rw [hL]; exact List.mem_append_right _ (List.mem_cons_self ..))
    have hff := p2 P.length C hat
    have hin : inN (fsS s.1 (s.1 * s.2.1) C) (s.1 * s.2.1) := fun i hi z => by
      by_cases y : i < s.1 * s.2.1
      · exact y
      · unfold fsS at z
        rw [bt_stO _ _ hn.1, decide_eq_false y] at z
        cases z
    refine g_iload_n (i := 2) rfl rfl ?_
    refine g_aload_n (i := 0) rfl rfl ?_
    refine g_getfield (v := .int (B 6)) rfl hS (by decide) rfl ?_
    refine g_icmp_ge 164 rfl rfl (fun hc => absurd hc (by rw [i_le, e6, el]; omega)) (fun _ => ?_)
    refine g_aload_n (i := 1) rfl rfl ?_
    refine g_iconst (n := 0) rfl ?_
    refine g_aload_n (i := 0) rfl rfl ?_
    refine g_getfield (v := .ref 40) rfl hS (by decide) rfl ?_
    refine g_iload_n (i := 2) rfl rfl ?_
    refine g_laload (n := 644) (f := ff) rfl h40 (i_in (by omega) (by omega)) ?_
    rw [i_nat el, hff]
    refine g_virt2 rfl (by decide) rfl F.1 rfl (Nat.le_of_ble_eq_true rfl) (s_content11 (d := d) (m := m) (by omega) F g r sI hN hin) (fun rv h9 hq => ?_)
    obtain ⟨rfl, ⟨hct, rfl⟩ | ⟨hct, rfl⟩⟩ := hq
    · skip
      refine g_if_ne 58 rfl rfl (fun _ => ?_) (fun hc => absurd hc (by decide))
      refine g_iconst (n := 0) rfl ?_
      refine g_istore_n (i := 3) (L1 := [some (.ref 38), some (.ref 5), some (.int (Int32.ofNat P.length)), some (.int (Int32.ofInt 0))]) rfl (Nat.le_of_ble_eq_true rfl) rfl ?_
      refine s_three11_in (d := d) (h0 := h0) (i1 := P.length) (fin := thI m s C L t) hd g r sI hk hl p1 p2 hat (by omega) (fun B2 T2 h2 o4 V2 => ?_) L [] t B T _ rfl V' rfl
      refine g_iinc (i := 2) (L1 := [some (.ref 38), some (.ref 5), some (.int ((Int32.ofNat P.length) + Int32.ofInt 1)), o4]) rfl rfl rfl ?_
      rw [ofN_add (by omega)]
      refine g_goto 33 rfl rfl ?_
      have key := ih (P ++ [C]) _ _ _ _ o4 hL2 V2
      rw [hP1] at key
      exact key
    · skip
      refine g_if_ne 58 rfl rfl (fun hc => absurd hc (by decide)) (fun _ => ?_)
      refine g_goto 158 rfl rfl ?_
      refine g_iinc (i := 2) (L1 := [some (.ref 38), some (.ref 5), some (.int ((Int32.ofNat P.length) + Int32.ofInt 1)), o3]) rfl rfl rfl ?_
      rw [ofN_add (by omega)]
      refine g_goto 33 rfl rfl ?_
      have key := ih (P ++ [C]) _ _ _ _ o3 hL2 V'
      rw [hP1] at key
      rw [show thL m s L (C :: R) t = thL m s L R t from congrArg (thL m s L R) (th_skip hn.1 hN hct L t)]
      exact key
theorem s_find3 {d : Nat} {h : sHp} {c : CF} {m : MF} {s : Sg} {B : Nat → Int32} {S1 S2 : Int64} {fc : Nat → Int32} {ff T : Nat → Int64} (hd : 9 ≤ d) (F : FC h 5 c) (g : gdF c s.1 s.2.1) (r : RB c m) (sI : sgI c s) (h2 : s.2.2 = 3) (hS : h[38]? = some (sO B S1 S2)) (h39 : h[39]? = some (.inl (0, 644, .inl fc))) (h40 : h[40]? = some (.inl (1, 644, .inr (.inl ff)))) (h41 : h[41]? = some (.inl (1, 7, .inr (.inl T)))) : sDo d 98 [.ref 38, .ref 5] h (fun rv h' => (rv = some (.int 1) ∧ (thL m s (lsT s.1 s.2.1 false true) (lsT s.1 s.2.1 false true) (none, 1000)).1 ≠ none ∨ rv = some (.int 0) ∧ (thL m s (lsT s.1 s.2.1 false true) (lsT s.1 s.2.1 false true) (none, 1000)).1 = none) ∧ tcE h h' ∧ ∃ B', h'[38]? = some (sO B' S1 S2) ∧ bsC B' (thL m s (lsT s.1 s.2.1 false true) (lsT s.1 s.2.1 false true) (none, 1000))) := by
  have w8 := g.2.2.2.1
  have h8 := g.2.2.2.2.2.1
  have e11 : c.1 11 = Int32.ofInt 3 := by rw [sI.2.2.1, h2]; rfl
  refine sDo_of1 (nL := 4) (L := [some (.ref 38), some (.ref 5), none, none]) (by omega) rfl rfl ?_
  refine g_aload_n (i := 0) rfl rfl ?_
  refine g_sipush (n := 1000) rfl ?_
  refine g_virt1 rfl (by decide) rfl hS rfl (Nat.le_of_ble_eq_true rfl) (s_forget (d := d - 1) (x := (Int16.ofInt 1000).toInt32) (by omega) hS) (fun r h1 hq => ?_)
  obtain ⟨rfl, rfl⟩ := hq
  have hA : (h.set 38 (sO (upd (upd (upd B 0 (Int32.ofInt (-1))) 4 (Int32.ofInt 0)) 5 (Int16.ofInt 1000).toInt32) S1 S2))[38]? = some (sO (upd (upd (upd B 0 (Int32.ofInt (-1))) 4 (Int32.ofInt 0)) 5 (Int16.ofInt 1000).toInt32) S1 S2) := s_set_eq hS
  have FA := FC_out (q := 38) (x := sO (upd (upd (upd B 0 (Int32.ofInt (-1))) 4 (Int32.ofInt 0)) 5 (Int16.ofInt 1000).toInt32) S1 S2) F (by omega)
  refine g_aload_n (i := 1) rfl rfl ?_
  refine g_getfield (v := .int (c.1 11)) rfl FA.1 (by decide) rfl ?_
  refine g_iconst (n := 3) rfl ?_
  refine g_icmp_eq 17 rfl rfl (fun _ => ?_) (fun hc => absurd hc (by exact fun z => z e11))
  refine g_aload_n (i := 0) rfl rfl ?_
  refine g_aload_n (i := 1) rfl rfl ?_
  refine g_iconst (n := 0) rfl ?_
  refine g_iconst (n := 1) rfl ?_
  have hls := s_listCuts (d := d - 1) (x2 := Int32.ofInt 0) (x3 := Int32.ofInt 1) (fc := fc) (ff := ff) false true (by omega) FA g hA (by rw [s_set_ne (by decide)]; exact h39) (by rw [s_set_ne (by decide)]; exact h40) (by decide) (by decide)
  refine g_virt3 rfl (by decide) rfl hA rfl (Nat.le_of_ble_eq_true rfl) hls (fun r h2 hq => ?_)
  obtain ⟨rfl, ⟨B2, fc2, ff2, hS2, bb, b6, g39, g40, p1, p2⟩, E2⟩ := hq
  have F2 := FC_tr FA (fun q x h1 h2 hx => (E2.2 q (by omega)).trans hx)
  have g41 : h2[41]? = some (.inl (1, 7, .inr (.inl T))) := (E2.2 41 (by decide)).trans (by rw [s_set_ne (by decide)]; exact h41)
  have bc : bsC B2 (none, 1000) := ⟨(bb 0 (by decide)).trans ((u_ne (by decide)).trans ((u_ne (by decide)).trans u_at)), (bb 5 (by decide)).trans u_at⟩
  have E3 := tcE_sc (tcE_set (x := sO (upd (upd (upd B 0 (Int32.ofInt (-1))) 4 (Int32.ofInt 0)) 5 (Int16.ofInt 1000).toInt32) S1 S2) (tcE_rfl (h := h)) (by decide)) E2
  refine g_aload_n (i := 0) rfl rfl ?_
  refine g_getfield (v := .ref 41) rfl hS2 (by decide) rfl ?_
  refine g_static1 (Qc := fun r h' => r = none ∧ h' = h2.set 41 (.inl (1, 7, .inr (.inl (zrF T 7))))) rfl (by decide) rfl (Nat.le_of_ble_eq_true rfl) (by rw [show d - 1 = (d - 2) + 1 by omega]; exact s_empty (d := d - 2) g41 (by decide)) (fun r h3 hq => ?_)
  obtain ⟨rfl, rfl⟩ := hq
  have F3 := FC_out (q := 41) (x := .inl (1, 7, .inr (.inl (zrF T 7)))) F2 (by omega)
  have hS3 : (h2.set 41 (.inl (1, 7, .inr (.inl (zrF T 7)))))[38]? = some (sO B2 S1 S2) := by rw [s_set_ne (by decide)]; exact hS2
  refine g_iconst (n := 0) rfl ?_
  refine g_istore_n (i := 2) (L1 := [some (.ref 38), some (.ref 5), some (.int (Int32.ofInt 0)), none]) rfl (Nat.le_of_ble_eq_true rfl) rfl ?_
  exact s_three11_go (d := d - 1) (by omega) (by omega) g r sI (ls_k w8 h8) (ls_len w8 h8) p1 p2 (lsT s.1 s.2.1 false true) [] (none, 1000) B2 _ _ _ rfl ⟨F3, hS3, b6, bc, by decide, (fun _ _ z => by cases z), by rw [s_set_ne (by decide)]; exact g39, by rw [s_set_ne (by decide)]; exact g40, s_set_eq g41, fun k _ k7 => if_pos k7, tcE_set E3 (by decide)⟩
end
section
theorem s_three12_q {d : Nat} {hb h : sHp} {m : MF} {s : Sg} {J ow fc : Nat → Int32} {x : Int32} {i j C D : Nat} {Q : Option Value → sHp → Prop} (hd : 1 ≤ d) (X : rX hb h J ow) (g : gdM J s.1 s.2.1) (h76 : hb[76]? = some (.inl (0, 1000, .inl fc))) (hi : i < 1000) (hfc : fc i = Int32.ofNat C) (hC : C < 7000) (hj : j < 1000) (hfd : fc j = Int32.ofNat D) (hD : D < 7000) (hQ : sGo none 236 d 129 [some (.ref 60), some (.int x), some (.int (Int32.ofNat i)), some (.int (Int32.ofNat j)), some (.int (Int32.ofNat (s.1 * s.2.1)))] [] (h.set 63 (.inl (0, 64, .inl (fun q => if q < (s.1 * s.2.1) then ow3 s.1 C D q else ow q)))) Q) : ∀ (f k : Nat), k + f = (s.1 * s.2.1) → sGo none 236 d 63 [some (.ref 60), some (.int x), some (.int (Int32.ofNat i)), some (.int (Int32.ofNat j)), some (.int (Int32.ofNat k))] [] (h.set 63 (.inl (0, 64, .inl (fun q => if q < k then ow3 s.1 C D q else ow q)))) Q := by
  have gd := g
  obtain ⟨gw, gh, w2, w8, h2, h8⟩ := gd
  have hn := gdM_n g
  have hw0 : (J 0).toInt = ((s.1 : Nat) : Int) := by rw [gw]; exact ofN_toInt (by omega)
  have hw1 : (J 1).toInt = ((s.2.1 : Nat) : Int) := by rw [gh]; exact ofN_toInt (by omega)
  have hwn : (J 0 * J 1).toInt = ((s.1 * s.2.1 : Nat) : Int) := n_mul hw0 hw1 (by omega)
  have hcx : (Int32.ofNat C).toInt = ((C : Nat) : Int) := ofC_toInt (by omega)
  have hdx : (Int32.ofNat D).toInt = ((D : Nat) : Int) := ofC_toInt (by omega)
  have ei : (Int32.ofNat i).toInt = ((i : Nat) : Int) := ofC_toInt (by omega)
  have ej : (Int32.ofNat j).toInt = ((j : Nat) : Int) := ofC_toInt (by omega)
  intro f
  induction f with
  | zero =>
    intro k hk
    have eW : (s.1 * s.2.1) = k := by omega
    have ek := ofN_toInt (n := k) (by omega)
    have hr : (h.set 63 (.inl (0, 64, .inl (fun q => if q < k then ow3 s.1 C D q else ow q))))[60]? = some (mO J) := by rw [s_set_ne (by decide)]; exact X.1
    rw [eW] at hQ
    refine g_iload (i := 4) rfl rfl ?_
    refine g_aload_n (i := 0) rfl rfl ?_
    refine g_getfield (v := .int (J 0)) rfl hr (by decide) rfl ?_
    refine g_aload_n (i := 0) rfl rfl ?_
    refine g_getfield (v := .int (J 1)) rfl hr (by decide) rfl ?_
    refine g_imul rfl ?_
    refine g_icmp_ge 129 rfl rfl (fun _ => ?_) (fun hc => absurd hc (by rw [i_le, hwn, ek]; omega))
    exact hQ
  | succ f ih =>
    intro k hk
    have ek := ofN_toInt (n := k) (by omega)
    have hr : (h.set 63 (.inl (0, 64, .inl (fun q => if q < k then ow3 s.1 C D q else ow q))))[60]? = some (mO J) := by rw [s_set_ne (by decide)]; exact X.1
    have h63 : (h.set 63 (.inl (0, 64, .inl (fun q => if q < k then ow3 s.1 C D q else ow q))))[63]? = some (.inl (0, 64, .inl (fun q => if q < k then ow3 s.1 C D q else ow q))) := s_set_eq X.2.1
    have c76 : (h.set 63 (.inl (0, 64, .inl (fun q => if q < k then ow3 s.1 C D q else ow q))))[76]? = some (.inl (0, 1000, .inl fc)) := by rw [s_set_ne (by decide)]; exact (X.2.2.2 76 (by decide) (by decide)).trans h76
    have ef : ∀ v : Int32, v = ow3 s.1 C D k → upd (fun q => if q < k then ow3 s.1 C D q else ow q) k v = (fun q => if q < (k + 1) then ow3 s.1 C D q else ow q) := fun v hv => funext fun q => by
      by_cases e : q = k
      · rw [e, u_at, hv]; exact (if_pos (by omega)).symm
      · rw [u_ne e]
        by_cases l : q < k
        · exact (if_pos l).trans (if_pos (by omega)).symm
        · exact (if_neg l).trans (if_neg (by omega)).symm
    obtain ⟨hz, ehz⟩ : ∃ z, z = (h.set 63 (.inl (0, 64, .inl (fun q => if q < k then ow3 s.1 C D q else ow q)))) := ⟨_, rfl⟩
    rw [← ehz] at hr h63 c76 ⊢
    refine g_iload (i := 4) rfl rfl ?_
    refine g_aload_n (i := 0) rfl rfl ?_
    refine g_getfield (v := .int (J 0)) rfl hr (by decide) rfl ?_
    refine g_aload_n (i := 0) rfl rfl ?_
    refine g_getfield (v := .int (J 1)) rfl hr (by decide) rfl ?_
    refine g_imul rfl ?_
    refine g_icmp_ge 129 rfl rfl (fun hc => absurd hc (by rw [i_le, hwn, ek]; omega)) (fun _ => ?_)
    refine g_aload_n (i := 0) rfl rfl ?_
    refine g_getfield (v := .ref 63) rfl hr (by decide) rfl ?_
    refine g_iload (i := 4) rfl rfl ?_
    refine g_aload_n (i := 0) rfl rfl ?_
    refine g_aload_n (i := 0) rfl rfl ?_
    refine g_getfield (v := .ref 76) rfl hr (by decide) rfl ?_
    refine g_iload_n (i := 2) rfl rfl ?_
    refine g_iaload (n := 1000) (f := fc) rfl c76 (i_in (by omega) (by omega)) ?_
    rw [i_nat ei, hfc]
    refine g_iload (i := 4) rfl rfl ?_
    refine g_virt2 (Qc := fun r h' => h' = hz ∧ (((isF s.1 C k = true) ∧ r = some (.int 1)) ∨ (¬ (isF s.1 C k = true) ∧ r = some (.int 0)))) rfl (by decide) rfl hr rfl (Nat.le_of_ble_eq_true rfl) (s_isFirst2 (W := s.1) (H := s.2.1) (q := k) (by omega) hr g hcx hC (by omega)) (fun r hz hq9 => ?_)
    obtain ⟨rfl, ⟨c_1, rfl⟩ | ⟨c_1, rfl⟩⟩ := hq9
    · skip
      refine g_if_eq 102 rfl rfl (fun hc => absurd hc (by decide)) (fun _ => ?_)
      refine g_iconst (n := 0) rfl ?_
      refine g_goto 122 rfl rfl ?_
      refine g_iastore (n := 64) (f := (fun q => if q < k then ow3 s.1 C D q else ow q)) (h1 := (h.set 63 (.inl (0, 64, .inl (fun q => if q < (k + 1) then ow3 s.1 C D q else ow q))))) rfl h63 (i_in (by omega) (by omega)) (by rw [i_nat ek, ehz, List.set_set, ef ((Int32.ofInt 0)) ((show (Int32.ofInt 0) = Int32.ofNat 0 by decide).trans (if_pos c_1).symm)]) ?_
      refine g_iinc (i := 4) (L1 := [some (.ref 60), some (.int x), some (.int (Int32.ofNat i)), some (.int (Int32.ofNat j)), some (.int ((Int32.ofNat k) + Int32.ofInt 1))]) rfl rfl rfl ?_
      rw [ofN_add (by omega)]
      refine g_goto 63 rfl rfl ?_
      exact ih (k + 1) (by omega)
    · skip
      refine g_if_eq 102 rfl rfl (fun _ => ?_) (fun hc => absurd hc (by decide))
      refine g_aload_n (i := 0) rfl rfl ?_
      refine g_aload_n (i := 0) rfl rfl ?_
      refine g_getfield (v := .ref 76) rfl hr (by decide) rfl ?_
      refine g_iload_n (i := 3) rfl rfl ?_
      refine g_iaload (n := 1000) (f := fc) rfl c76 (i_in (by omega) (by omega)) ?_
      rw [i_nat ej, hfd]
      refine g_iload (i := 4) rfl rfl ?_
      refine g_virt2 (Qc := fun r h' => h' = hz ∧ (((isF s.1 D k = true) ∧ r = some (.int 1)) ∨ (¬ (isF s.1 D k = true) ∧ r = some (.int 0)))) rfl (by decide) rfl hr rfl (Nat.le_of_ble_eq_true rfl) (s_isFirst2 (W := s.1) (H := s.2.1) (q := k) (by omega) hr g hdx hD (by omega)) (fun r hz hq9 => ?_)
      obtain ⟨rfl, ⟨c_2, rfl⟩ | ⟨c_2, rfl⟩⟩ := hq9
      · skip
        refine g_if_eq 121 rfl rfl (fun hc => absurd hc (by decide)) (fun _ => ?_)
        refine g_iconst (n := 1) rfl ?_
        refine g_goto 122 rfl rfl ?_
        refine g_iastore (n := 64) (f := (fun q => if q < k then ow3 s.1 C D q else ow q)) (h1 := (h.set 63 (.inl (0, 64, .inl (fun q => if q < (k + 1) then ow3 s.1 C D q else ow q))))) rfl h63 (i_in (by omega) (by omega)) (by rw [i_nat ek, ehz, List.set_set, ef ((Int32.ofInt 1)) ((show (Int32.ofInt 1) = Int32.ofNat 1 by decide).trans ((if_neg c_1).trans (if_pos c_2)).symm)]) ?_
        refine g_iinc (i := 4) (L1 := [some (.ref 60), some (.int x), some (.int (Int32.ofNat i)), some (.int (Int32.ofNat j)), some (.int ((Int32.ofNat k) + Int32.ofInt 1))]) rfl rfl rfl ?_
        rw [ofN_add (by omega)]
        refine g_goto 63 rfl rfl ?_
        exact ih (k + 1) (by omega)
      · skip
        refine g_if_eq 121 rfl rfl (fun _ => ?_) (fun hc => absurd hc (by decide))
        refine g_iconst (n := 2) rfl ?_
        refine g_iastore (n := 64) (f := (fun q => if q < k then ow3 s.1 C D q else ow q)) (h1 := (h.set 63 (.inl (0, 64, .inl (fun q => if q < (k + 1) then ow3 s.1 C D q else ow q))))) rfl h63 (i_in (by omega) (by omega)) (by rw [i_nat ek, ehz, List.set_set, ef ((Int32.ofInt 2)) ((show (Int32.ofInt 2) = Int32.ofNat 2 by decide).trans ((if_neg c_1).trans (if_neg c_2)).symm)]) ?_
        refine g_iinc (i := 4) (L1 := [some (.ref 60), some (.int x), some (.int (Int32.ofNat i)), some (.int (Int32.ofNat j)), some (.int ((Int32.ofNat k) + Int32.ofInt 1))]) rfl rfl rfl ?_
        rw [ofN_add (by omega)]
        refine g_goto 63 rfl rfl ?_
        exact ih (k + 1) (by omega)
theorem s_three12_in {d : Nat} {hb : sHp} {c : CF} {m : MF} {s : Sg} {L : List Nat} {Jb fc : Nat → Int32} {x : Int32} {C i1 : Nat} {fin : T3} {Q : Option Value → sHp → Prop} (hd : 6 ≤ d) (M : MC hb m) (hb7 : ∀ j, j < 7 → Jb j = m.1 j) (gM : gdM m.1 s.1 s.2.1) (g : gdF c s.1 s.2.1) (r : RB c m) (sI : sgI c s) (sJ : sgJ m.1 s) (hk : ∀ C ∈ L, C < 7000 ∧ ¬ C / 1000 = 3) (hl : L.length ≤ 644) (j31 : Jb 31 = Int32.ofNat L.length) (h76 : hb[76]? = some (.inl (0, 1000, .inl fc))) (p1 : ∀ j C, L[j]? = some C → fc j = Int32.ofNat C) (hat1 : L[i1]? = some C) (hi1 : i1 < L.length) (hQ : ∀ (J ow : Nat → Int32) (h : sHp) (o3 o4 : Option Value), rX hb h J ow → jE Jb J → bsJ J fin → sGo none 236 d 151 [some (.ref 60), some (.int x), some (.int (Int32.ofNat i1)), o3, o4] [] h Q) : ∀ (R P : List Nat) (t : T3) (J ow : Nat → Int32) (h : sHp) (o4 : Option Value), L = P ++ R → rX hb h J ow → jE Jb J → bsJ J t → t.2 ≤ 1000 → thI m s C R t = fin → sGo none 236 d 52 [some (.ref 60), some (.int x), some (.int (Int32.ofNat i1)), some (.int (Int32.ofNat P.length)), o4] [] h Q := by
  have hn := gdF_n g
  have ei := ofN_toInt (n := i1) (by omega)
  have hC := hk C (List.mem_of_getElem? hat1)
  have hfc1 := p1 i1 C hat1
  intro R
  induction R with
  | nil =>
    intro P t J ow h o4 hL X hJ b ht hf
    rw [List.append_nil] at hL
    subst hL
    have hf : t = fin := hf
    subst hf
    have hr := X.1
    have el := ofN_toInt (n := L.length) (by omega)
    have e6 : (J 31).toInt = ((L.length : Nat) : Int) := by rw [hJ 31 (by decide) (by decide) (by decide) (by decide), j31]; exact el
    refine g_iload_n (i := 3) rfl rfl ?_
    refine g_aload_n (i := 0) rfl rfl ?_
    refine g_getfield (v := .int (J 31)) rfl hr (by decide) rfl ?_
    refine g_icmp_ge 151 rfl rfl (fun _ => ?_) (fun hc => absurd hc (by rw [i_le, e6, el]; omega))
    exact hQ _ _ _ _ _ X hJ b
  | cons D R ih =>
    intro P t J ow h o4 hL X hJ b ht hf
    obtain ⟨hat, hL2, hP1, hlen⟩ := two_go hL
    have hr := X.1
    have el := ofN_toInt (n := P.length) (by omega)
    have e6 : (J 31).toInt = ((L.length : Nat) : Int) := by rw [hJ 31 (by decide) (by decide) (by decide) (by decide), j31]; exact ofN_toInt (by omega)
    have hD := hk D (by rw [hL]; exact List.mem_append_right _ (List.mem_cons_self ..))
    have hfc := p1 P.length D hat
    have hj7 : ∀ j, j < 7 → J j = m.1 j := fun j hj => (hJ j (by omega) (by omega) (by omega) (by omega)).trans (hb7 j hj)
    refine g_iload_n (i := 3) rfl rfl ?_
    refine g_aload_n (i := 0) rfl rfl ?_
    refine g_getfield (v := .int (J 31)) rfl hr (by decide) rfl ?_
    refine g_icmp_ge 151 rfl rfl (fun hc => absurd hc (by rw [i_le, e6, el]; omega)) (fun _ => ?_)
    refine g_iconst (n := 0) rfl ?_
    refine g_istore (i := 4) (L1 := [some (.ref 60), some (.int x), some (.int (Int32.ofNat i1)), some (.int (Int32.ofNat P.length)), some (.int (Int32.ofInt 0))]) rfl (Nat.le_of_ble_eq_true rfl) rfl ?_
    show sGo none 236 _ 63 [some (.ref 60), some (.int x), some (.int (Int32.ofNat i1)), some (.int (Int32.ofNat P.length)), some (.int (Int32.ofInt 0))] [] _ _
    have e0 : h = h.set 63 (.inl (0, 64, .inl (fun q => if q < 0 then ow3 s.1 C D q else ow q))) := List.ext_getElem? (fun i => by
      by_cases e : i = 63
      · rw [e, s_set_eq X.2.1, X.2.1]
        exact congrArg (fun f => (some (.inl (0, 64, .inl f)) : Option va_E)) (funext fun i => (if_neg (Nat.not_lt_zero i)).symm)
      · rw [s_set_ne (Ne.symm e)])
    rw [e0]
    refine s_three12_q (hb := hb) (m := m) (s := s) (C := C) (D := D) (by omega) X ⟨(hj7 0 (by decide)).trans gM.1, (hj7 1 (by decide)).trans gM.2.1, gM.2.2⟩ h76 (by omega) hfc1 hC.1 (by omega) hfc hD.1 ?_ (s.1 * s.2.1) 0 (Nat.zero_add _)
    have XA := rX_ow (ow' := (fun q => if q < (s.1 * s.2.1) then ow3 s.1 C D q else ow q)) X
    have hA := XA.1
    have cA := (XA.2.2.2 76 (by decide) (by decide)).trans h76
    have MA := rX_MC XA M
    refine g_aload_n (i := 0) rfl rfl ?_
    refine g_aload_n (i := 0) rfl rfl ?_
    refine g_getfield (v := .ref 76) rfl hA (by decide) rfl ?_
    refine g_iload_n (i := 2) rfl rfl ?_
    refine g_iaload (n := 1000) (f := fc) rfl cA (i_in (by omega) (by omega)) ?_
    rw [i_nat ei, hfc1]
    refine g_aload_n (i := 0) rfl rfl ?_
    refine g_getfield (v := .ref 76) rfl hA (by decide) rfl ?_
    refine g_iload_n (i := 3) rfl rfl ?_
    refine g_iaload (n := 1000) (f := fc) rfl cA (i_in (by omega) (by omega)) ?_
    rw [i_nat el, hfc]
    refine g_virt2 rfl (by decide) rfl hA rfl (Nat.le_of_ble_eq_true rfl) (s_tryM (d := d) (m := m) (s := s) (c := c) (owc := ow3 s.1 C D) (C := C) (C2 := D) (t := t) hd MA hj7 gM g r sI sJ (fun q hq => if_pos hq) (fun q _ => ow3_in) ht b rfl rfl) (fun r2 h2 hq => ?_)
    obtain ⟨rfl, J2, hr2, eJ2, b2, E2⟩ := hq
    have X2 := rX_60 XA E2 hr2
    have hJ2 := jE_tr hJ eJ2
    refine g_iinc (i := 3) (L1 := [some (.ref 60), some (.int x), some (.int (Int32.ofNat i1)), some (.int (Int32.ofNat P.length + Int32.ofInt 1)), some (.int (Int32.ofNat (s.1 * s.2.1)))]) rfl rfl rfl ?_
    rw [ofN_add (by omega)]
    refine g_goto 52 rfl rfl ?_
    have key := ih (P ++ [D]) _ J2 _ h2 (some (.int (Int32.ofNat (s.1 * s.2.1)))) hL2 X2 hJ2 b2 (trS_le ht) hf
    rw [hP1] at key
    exact key
theorem s_three12_go {d : Nat} {hb : sHp} {c : CF} {m : MF} {s : Sg} {L : List Nat} {Jb fc : Nat → Int32} {x : Int32} {fin : T3} {Q : Option Value → sHp → Prop} (hd : 6 ≤ d) (M : MC hb m) (hb7 : ∀ j, j < 7 → Jb j = m.1 j) (gM : gdM m.1 s.1 s.2.1) (g : gdF c s.1 s.2.1) (r : RB c m) (sI : sgI c s) (sJ : sgJ m.1 s) (hk : ∀ C ∈ L, C < 7000 ∧ ¬ C / 1000 = 3) (hl : L.length ≤ 644) (j31 : Jb 31 = Int32.ofNat L.length) (h76 : hb[76]? = some (.inl (0, 1000, .inl fc))) (p1 : ∀ j C, L[j]? = some C → fc j = Int32.ofNat C) (hQ : ∀ (J ow : Nat → Int32) (h : sHp) (o2 o3 o4 : Option Value), rX hb h J ow → jE Jb J → bsJ J fin → sGo none 236 d 157 [some (.ref 60), some (.int x), o2, o3, o4] [] h Q) : ∀ (R P : List Nat) (t : T3) (J ow : Nat → Int32) (h : sHp) (o3 o4 : Option Value), L = P ++ R → rX hb h J ow → jE Jb J → bsJ J t → t.2 ≤ 1000 → thL m s L R t = fin → sGo none 236 d 42 [some (.ref 60), some (.int x), some (.int (Int32.ofNat P.length)), o3, o4] [] h Q := by
  intro R
  induction R with
  | nil =>
    intro P t J ow h o3 o4 hL X hJ b ht hf
    rw [List.append_nil] at hL
    subst hL
    have hf : t = fin := hf
    subst hf
    have hr := X.1
    have el := ofN_toInt (n := L.length) (by omega)
    have e6 : (J 31).toInt = ((L.length : Nat) : Int) := by rw [hJ 31 (by decide) (by decide) (by decide) (by decide), j31]; exact el
    refine g_iload_n (i := 2) rfl rfl ?_
    refine g_aload_n (i := 0) rfl rfl ?_
    refine g_getfield (v := .int (J 31)) rfl hr (by decide) rfl ?_
    refine g_icmp_ge 157 rfl rfl (fun _ => ?_) (fun hc => absurd hc (by rw [i_le, e6, el]; omega))
    exact hQ _ _ _ _ _ _ X hJ b
  | cons C R ih =>
    intro P t J ow h o3 o4 hL X hJ b ht hf
    obtain ⟨hat, hL2, hP1, hlen⟩ := two_go hL
    have hr := X.1
    have el := ofN_toInt (n := P.length) (by omega)
    have e6 : (J 31).toInt = ((L.length : Nat) : Int) := by rw [hJ 31 (by decide) (by decide) (by decide) (by decide), j31]; exact ofN_toInt (by omega)
    refine g_iload_n (i := 2) rfl rfl ?_
    refine g_aload_n (i := 0) rfl rfl ?_
    refine g_getfield (v := .int (J 31)) rfl hr (by decide) rfl ?_
    refine g_icmp_ge 157 rfl rfl (fun hc => absurd hc (by rw [i_le, e6, el]; omega)) (fun _ => ?_)
    refine g_iconst (n := 0) rfl ?_
    refine g_istore_n (i := 3) (L1 := [some (.ref 60), some (.int x), some (.int (Int32.ofNat P.length)), some (.int (Int32.ofInt 0)), o4]) rfl (Nat.le_of_ble_eq_true rfl) rfl ?_
    refine s_three12_in (d := d) (i1 := P.length) (C := C) (fin := thI m s C L t) hd M hb7 gM g r sI sJ hk hl j31 h76 p1 hat (by omega) (fun J2 ow2 h2 o5 o6 X2 hJ2 b2 => ?_) L [] t J ow h _ rfl X hJ b ht rfl
    refine g_iinc (i := 2) (L1 := [some (.ref 60), some (.int x), some (.int ((Int32.ofNat P.length) + Int32.ofInt 1)), o5, o6]) rfl rfl rfl ?_
    rw [ofN_add (by omega)]
    refine g_goto 42 rfl rfl ?_
    have key := ih (P ++ [C]) _ J2 ow2 h2 o5 o6 hL2 X2 hJ2 b2 (thI_le ht) hf
    rw [hP1] at key
    exact key
theorem s_three12 {d : Nat} {h : sHp} {c : CF} {m : MF} {s : Sg} {sp fc R : Nat → Int32} {x : Int32} (hd : 8 ≤ d) (M : MC h m) (hR : h[61]? = some (rFc R)) (gM : gdM m.1 s.1 s.2.1) (g : gdF c s.1 s.2.1) (r : RB c m) (sI : sgI c s) (sJ : sgJ m.1 s) (h76 : h[76]? = some (.inl (0, 1000, .inl fc))) (h77 : h[77]? = some (.inl (0, 64, .inl sp))) (h2 : s.2.2 = 3) (hx : 0 ≤ x.toInt ∧ x.toInt ≤ 2) : sDo d 236 [.ref 60, .int x] h (qB m (twA (thL m s (lsT s.1 s.2.1 false true) (lsT s.1 s.2.1 false true) (none, 1000)) x.toInt)) := by
  have w8 := gM.2.2.2.1
  have h8 := gM.2.2.2.2.2
  have hn := gdF_n g
  have e774 : m.1 6 = Int32.ofInt 3 := by rw [sJ.2.2.1, h2]; rfl
  refine sDo_of1 (nL := 5) (L := [some (.ref 60), some (.int x), none, none, none]) (by omega) rfl rfl ?_
  refine g_aload_n (i := 0) rfl rfl ?_
  refine g_getfield (v := .int (m.1 6)) rfl M.1 (by decide) rfl ?_
  refine g_iconst (n := 3) rfl ?_
  refine g_icmp_ne 17 rfl rfl (fun hc => absurd hc (by exact fun z => z e774)) (fun _ => ?_)
  refine g_iload_n (i := 1) rfl rfl ?_
  have k_2 : (0 : Int32).toInt = 0 := rfl
  refine g_if_lt 17 rfl rfl (fun c_1 => ?_) (fun c_1 => ?_)
  · skip
    rw [i_lt, k_2] at c_1
    exfalso; omega
  · skip
    rw [i_lt, k_2] at c_1
    refine g_iload_n (i := 1) rfl rfl ?_
    refine g_iconst (n := 2) rfl ?_
    have k_4 : (Int32.ofInt 2).toInt = 2 := rfl
    refine g_icmp_le 24 rfl rfl (fun c_3 => ?_) (fun c_3 => ?_)
    · skip
      rw [i_le, k_4] at c_3
      refine g_aload_n (i := 0) rfl rfl ?_
      refine g_iconst (n := 0) rfl ?_
      refine g_virt1 rfl (by decide) rfl M.1 rfl (Nat.le_of_ble_eq_true rfl) (s_save12 (d := d - 1) (by omega) M.1 M.2.2.1 h77) (fun r1 ha hq => ?_)
      obtain ⟨rfl, rfl⟩ := hq
      have hrA : (h.set 77 (.inl (0, 64, .inl (fun i => if i < 64 then m.2.2.1 i else sp i))))[60]? = some (mO m.1) := by rw [s_set_ne (by decide)]; exact M.1
      refine g_aload_n (i := 0) rfl rfl ?_
      refine g_bipush (n := 50) rfl ?_
      have hls := s_lists12 (d := d - 1) (kd := (Int8.ofInt 50).toInt32) (b4 := false) (b32 := true) (by omega) gM hrA (by rw [s_set_ne (by decide)]; exact h76) (by decide) (by decide) (by decide) (by decide)
      refine g_virt1 rfl (by decide) rfl hrA rfl (Nat.le_of_ble_eq_true rfl) hls (fun r2 hl hq => ?_)
      obtain ⟨rfl, ⟨J2, fc2, hr2, b2, j31, g76, p1⟩, E2⟩ := hq
      refine g_aload_n (i := 0) rfl rfl ?_
      refine g_iconst (n := (-1)) rfl ?_
      refine g_putfield (h1 := hl.set 60 (mO (upd J2 34 (Int32.ofInt (-1))))) rfl hr2 (by decide) (Nat.le_of_ble_eq_true rfl) rfl rfl ?_
      have o77 : ∀ q, q ≠ 60 → q ≠ 76 → q ≠ 77 → (hl.set 60 (mO (upd J2 34 (Int32.ofInt (-1)))))[q]? = h[q]? := fun q h1 h2 h3 => by rw [s_set_ne (Ne.symm h1), E2.2 q h1 h2, s_set_ne (Ne.symm h3)]
      have MB : MC (hl.set 60 (mO (upd J2 34 (Int32.ofInt (-1))))) ((upd J2 34 (Int32.ofInt (-1)), m.2) : MF) := ⟨s_set_eq hr2, (o77 62 (by decide) (by decide) (by decide)).trans M.2.1, (o77 63 (by decide) (by decide) (by decide)).trans M.2.2.1, (o77 64 (by decide) (by decide) (by decide)).trans M.2.2.2.1, (o77 65 (by decide) (by decide) (by decide)).trans M.2.2.2.2.1, (o77 66 (by decide) (by decide) (by decide)).trans M.2.2.2.2.2⟩
      have b7 : ∀ j, j < 7 → upd J2 34 (Int32.ofInt (-1)) j = m.1 j := fun j hj => (u_ne (by omega)).trans (b2 j (by omega))
      have c77 : (hl.set 60 (mO (upd J2 34 (Int32.ofInt (-1)))))[77]? = some (.inl (0, 64, .inl (fun i => if i < 64 then m.2.2.1 i else sp i))) := by rw [s_set_ne (by decide), E2.2 77 (by decide) (by decide)]; exact s_set_eq h77
      have c61 : (hl.set 60 (mO (upd J2 34 (Int32.ofInt (-1)))))[61]? = some (rFc R) := (o77 61 (by decide) (by decide) (by decide)).trans hR
      have X0 : rX (hl.set 60 (mO (upd J2 34 (Int32.ofInt (-1))))) (hl.set 60 (mO (upd J2 34 (Int32.ofInt (-1))))) (upd J2 34 (Int32.ofInt (-1))) m.2.2.1 := ⟨MB.1, MB.2.2.1, rfl, fun _ _ _ => rfl⟩
      refine g_iconst (n := 0) rfl ?_
      refine g_istore_n (i := 2) (L1 := [some (.ref 60), some (.int x), some (.int (Int32.ofInt 0)), none, none]) rfl (Nat.le_of_ble_eq_true rfl) rfl ?_
      have eT : thL m s (lsT s.1 s.2.1 false true) (lsT s.1 s.2.1 false true) (none, 1000) = thL ((upd J2 34 (Int32.ofInt (-1)), m.2) : MF) s (lsT s.1 s.2.1 false true) (lsT s.1 s.2.1 false true) (none, 1000) := (thL_J b7 _ _).symm
      refine s_three12_go (d := d - 1) (Jb := upd J2 34 (Int32.ofInt (-1))) (m := ((upd J2 34 (Int32.ofInt (-1)), m.2) : MF)) (fin := thL m s (lsT s.1 s.2.1 false true) (lsT s.1 s.2.1 false true) (none, 1000)) (by omega) MB (fun _ _ => rfl) ⟨(b7 0 (by decide)).trans gM.1, (b7 1 (by decide)).trans gM.2.1, gM.2.2⟩ g (RB_J7 r b7) sI ⟨(b7 0 (by decide)).trans sJ.1, (b7 1 (by decide)).trans sJ.2.1, (b7 6 (by decide)).trans sJ.2.2.1, sJ.2.2.2⟩ (ls_k w8 h8) (ls_len w8 h8) ((u_ne (by decide)).trans j31) (by rw [s_set_ne (by decide)]; exact g76) p1 (fun J ow h3 o2 o3 o4 X hJ b => ?_) (lsT s.1 s.2.1 false true) [] (none, 1000) _ _ _ _ _ rfl X0 jE_rfl ⟨u_at, rfl⟩ (by decide) eT.symm
      have hr := X.1
      have h63 := X.2.1
      have s77 := (X.2.2.2 77 (by decide) (by decide)).trans c77
      have s61 := (X.2.2.2 61 (by decide) (by decide)).trans c61
      have tb : (thL m s (lsT s.1 s.2.1 false true) (lsT s.1 s.2.1 false true) (none, 1000)).2 ≤ 1000 := thL_le (by decide)
      generalize thL m s (lsT s.1 s.2.1 false true) (lsT s.1 s.2.1 false true) (none, 1000) = fin at b tb ⊢
      obtain ⟨t1, t2⟩ := fin
      have tb : t2 ≤ 1000 := tb
      rcases t1 with _ | ⟨a, b'⟩
      · have b1 : J 34 = -1 := b.1
        refine g_aload_n (i := 0) rfl rfl ?_
        refine g_iconst (n := 1) rfl ?_
        refine g_virt1 rfl (by decide) rfl hr rfl (Nat.le_of_ble_eq_true rfl) (s_back12 (d := d - 1) (by omega) hr h63 s77) (fun r1 hz hq => ?_)
        obtain ⟨rfl, rfl⟩ := hq
        have hrZ : (h3.set 63 (.inl (0, 64, .inl (fun i => if i < 64 then (fun i => if i < 64 then m.2.2.1 i else sp i) i else ow i))))[60]? = some (mO J) := by rw [s_set_ne (by decide)]; exact hr
        have RZ : (h3.set 63 (.inl (0, 64, .inl (fun i => if i < 64 then (fun i => if i < 64 then m.2.2.1 i else sp i) i else ow i))))[61]? = some (rFc R) := by rw [s_set_ne (by decide)]; exact s61
        have back : ∃ ow', (h3.set 63 (.inl (0, 64, .inl (fun i => if i < 64 then (fun i => if i < 64 then m.2.2.1 i else sp i) i else ow i))))[63]? = some (.inl (0, 64, .inl ow')) ∧ ∀ q, q < 64 → ow' q = m.2.2.1 q := ⟨_, s_set_eq h63, fun q hq => (if_pos hq).trans (if_pos hq)⟩
        refine g_aload_n (i := 0) rfl rfl ?_
        refine g_getfield (v := .int (J 34)) rfl hrZ (by decide) rfl ?_
        refine g_iconst (n := (-1)) rfl ?_
        refine g_icmp_ne 177 rfl rfl (fun hc => absurd hc (by exact fun z => z b1)) (fun _ => ?_)
        refine g_aload_n (i := 0) rfl rfl ?_
        refine g_bipush (n := (-5)) rfl ?_
        refine g_virt1 (Qc := fun r h' => r = some (.int (-5)) ∧ h' = (h3.set 63 (.inl (0, 64, .inl (fun i => if i < 64 then (fun i => if i < 64 then m.2.2.1 i else sp i) i else ow i)))).set 61 (rFc (bump R 5))) rfl (by decide) rfl hrZ rfl (Nat.le_of_ble_eq_true rfl) (s_no2 (X := 5) (by omega) hrZ RZ rfl (by decide)) (fun r h9 hq9 => ?_)
        obtain ⟨rfl, rfl⟩ := hq9
        refine g_ireturn (ty := .int) rfl rfl rfl ?_
        obtain ⟨ow', k1, k2⟩ := back
        exact ⟨rfl, ow', by rw [s_set_ne (by decide)]; exact k1, k2⟩
      · have b1 : J 32 = Int32.ofNat a ∧ J 33 = Int32.ofNat b' ∧ J 34 = Int32.ofNat t2 := b
        have n34 : ¬ J 34 = Int32.ofInt (-1) := fun z => by rw [b1.2.2] at z; have z := congrArg Int32.toInt z; rw [ofC_toInt (by omega)] at z; have e1 : (Int32.ofInt (-1)).toInt = -1 := rfl; omega
        refine g_aload_n (i := 0) rfl rfl ?_
        refine g_iconst (n := 1) rfl ?_
        refine g_virt1 rfl (by decide) rfl hr rfl (Nat.le_of_ble_eq_true rfl) (s_back12 (d := d - 1) (by omega) hr h63 s77) (fun r1 hz hq => ?_)
        obtain ⟨rfl, rfl⟩ := hq
        have hrZ : (h3.set 63 (.inl (0, 64, .inl (fun i => if i < 64 then (fun i => if i < 64 then m.2.2.1 i else sp i) i else ow i))))[60]? = some (mO J) := by rw [s_set_ne (by decide)]; exact hr
        have RZ : (h3.set 63 (.inl (0, 64, .inl (fun i => if i < 64 then (fun i => if i < 64 then m.2.2.1 i else sp i) i else ow i))))[61]? = some (rFc R) := by rw [s_set_ne (by decide)]; exact s61
        have back : ∃ ow', (h3.set 63 (.inl (0, 64, .inl (fun i => if i < 64 then (fun i => if i < 64 then m.2.2.1 i else sp i) i else ow i))))[63]? = some (.inl (0, 64, .inl ow')) ∧ ∀ q, q < 64 → ow' q = m.2.2.1 q := ⟨_, s_set_eq h63, fun q hq => (if_pos hq).trans (if_pos hq)⟩
        refine g_aload_n (i := 0) rfl rfl ?_
        refine g_getfield (v := .int (J 34)) rfl hrZ (by decide) rfl ?_
        refine g_iconst (n := (-1)) rfl ?_
        refine g_icmp_ne 177 rfl rfl (fun _ => ?_) (fun hc => absurd hc (by exact n34))
        refine g_iload_n (i := 1) rfl rfl ?_
        have k_2 : (0 : Int32).toInt = 0 := rfl
        refine g_if_ne 188 rfl rfl (fun c_1 => ?_) (fun c_1 => ?_)
        · skip
          rw [i_eq, k_2] at c_1
          refine g_iload_n (i := 1) rfl rfl ?_
          refine g_iconst (n := 1) rfl ?_
          have k_4 : (Int32.ofInt 1).toInt = 1 := rfl
          refine g_icmp_ne 200 rfl rfl (fun c_3 => ?_) (fun c_3 => ?_)
          · skip
            rw [i_eq, k_4] at c_3
            refine g_aload_n (i := 0) rfl rfl ?_
            refine g_getfield (v := .int (J 34)) rfl hrZ (by decide) rfl ?_
            refine g_ireturn (ty := .int) rfl rfl rfl ?_
            refine ⟨?_, back⟩
            show _ = some (Value.int (if x.toInt = 0 then Int32.ofNat a else if x.toInt = 1 then Int32.ofNat b' else Int32.ofNat t2))
            rw [if_neg (show ¬ x.toInt = 0 by omega), if_neg (show ¬ x.toInt = 1 by omega), b1.2.2]
          · skip
            rw [i_eq, k_4] at c_3
            refine g_aload_n (i := 0) rfl rfl ?_
            refine g_getfield (v := .int (J 33)) rfl hrZ (by decide) rfl ?_
            refine g_goto 204 rfl rfl ?_
            refine g_ireturn (ty := .int) rfl rfl rfl ?_
            refine ⟨?_, back⟩
            show _ = some (Value.int (if x.toInt = 0 then Int32.ofNat a else if x.toInt = 1 then Int32.ofNat b' else Int32.ofNat t2))
            rw [if_neg (show ¬ x.toInt = 0 by omega), if_pos (show x.toInt = 1 by omega), b1.2.1]
        · skip
          rw [i_eq, k_2] at c_1
          refine g_aload_n (i := 0) rfl rfl ?_
          refine g_getfield (v := .int (J 32)) rfl hrZ (by decide) rfl ?_
          refine g_goto 204 rfl rfl ?_
          refine g_ireturn (ty := .int) rfl rfl rfl ?_
          refine ⟨?_, back⟩
          show _ = some (Value.int (if x.toInt = 0 then Int32.ofNat a else if x.toInt = 1 then Int32.ofNat b' else Int32.ofNat t2))
          rw [if_pos (show x.toInt = 0 by omega), b1.1]
    · skip
      rw [i_le, k_4] at c_3
      exfalso; omega
theorem s_three11 {d : Nat} {h : sHp} {ik tf : Int32} {R : Nat → Int32} {c : CF} {m : MF} {s : Sg} {B : Nat → Int32} {S1 S2 : Int64} {fc : Nat → Int32} {ff T : Nat → Int64} {x : Int32} (hd : 10 ≤ d) (h0 : h[0]? = some (cO ik tf)) (hR : h[43]? = some (rFc R)) (F : FC h 5 c) (g : gdF c s.1 s.2.1) (r : RB c m) (sI : sgI c s) (hS : h[38]? = some (sO B S1 S2)) (h39 : h[39]? = some (.inl (0, 644, .inl fc))) (h40 : h[40]? = some (.inl (1, 644, .inr (.inl ff)))) (h41 : h[41]? = some (.inl (1, 7, .inr (.inl T)))) (h2 : s.2.2 = 3) (hx : 0 ≤ x.toInt ∧ x.toInt ≤ 2) : sDo d 142 [.ref 0, .int x] h (fun rv h' => rv = some (.int (twA (thL m s (lsT s.1 s.2.1 false true) (lsT s.1 s.2.1 false true) (none, 1000)) x.toInt)) ∧ vE h h') := by
  refine sDo_of1 (nL := 2) (L := [some (.ref 0), some (.int x)]) (by omega) rfl rfl ?_
  refine g_iload_n (i := 1) rfl rfl ?_
  have k_2 : (0 : Int32).toInt = 0 := rfl
  refine g_if_lt 23 rfl rfl (fun c_1 => ?_) (fun c_1 => ?_)
  · skip
    rw [i_lt, k_2] at c_1
    exfalso; omega
  · skip
    rw [i_lt, k_2] at c_1
    refine g_iload_n (i := 1) rfl rfl ?_
    refine g_iconst (n := 2) rfl ?_
    have k_4 : (Int32.ofInt 2).toInt = 2 := rfl
    refine g_icmp_gt 23 rfl rfl (fun c_3 => ?_) (fun c_3 => ?_)
    · skip
      rw [i_lt, k_4] at c_3
      exfalso; omega
    · skip
      rw [i_lt, k_4] at c_3
      refine g_aload_n (i := 0) rfl rfl ?_
      refine g_getfield (v := .ref 38) rfl h0 (by decide) rfl ?_
      refine g_aload_n (i := 0) rfl rfl ?_
      refine g_getfield (v := .ref 5) rfl h0 (by decide) rfl ?_
      refine g_virt1 rfl (by decide) rfl hS rfl (Nat.le_of_ble_eq_true rfl) (s_find3 (d := d - 1) (m := m) (s := s) (by omega) F g r sI h2 hS h39 h40 h41) (fun rv hz hq => ?_)
      obtain ⟨hv, E, B2, hS2, b2⟩ := hq
      have z0 := (E.2 0 (by decide)).trans h0
      have z43 := (E.2 43 (by decide)).trans hR
      have vz : vE h hz := ⟨E.1, fun q hq => E.2 q (by omega)⟩
      generalize thL m s (lsT s.1 s.2.1 false true) (lsT s.1 s.2.1 false true) (none, 1000) = t at hv b2 ⊢
      rcases hv with ⟨rfl, ht⟩ | ⟨rfl, ht⟩
      · skip
        obtain ⟨⟨a, b⟩, ht⟩ : ∃ p, t.1 = some p := by
          cases e : t.1 with
          | none => exact absurd e ht
          | some p => exact ⟨p, rfl⟩
        refine g_if_ne 30 rfl rfl (fun _ => ?_) (fun hc => absurd hc (by decide))
        refine g_aload_n (i := 0) rfl rfl ?_
        refine g_getfield (v := .ref 38) rfl z0 (by decide) rfl ?_
        refine g_iload_n (i := 1) rfl rfl ?_
        refine g_virt1 (Qc := fun r h' => h' = hz ∧ r = some (.int (twA t x.toInt))) rfl (by decide) rfl hS2 rfl (Nat.le_of_ble_eq_true rfl) (s_best (by omega) hS2 b2 ht hx) (fun r hz hq9 => ?_)
        obtain ⟨rfl, rfl⟩ := hq9
        refine g_ireturn (ty := .int) rfl rfl rfl ?_
        exact ⟨rfl, vz⟩
      · skip
        refine g_if_ne 30 rfl rfl (fun hc => absurd hc (by decide)) (fun _ => ?_)
        refine g_aload_n (i := 0) rfl rfl ?_
        refine g_bipush (n := (-5)) rfl ?_
        refine g_virt1 (Qc := fun r h' => r = some (.int (-5)) ∧ h' = hz.set 43 (rFc (bump R 5))) rfl (by decide) rfl z0 rfl (Nat.le_of_ble_eq_true rfl) (s_refuse2 (X := 5) (by omega) z0 z43 rfl (by decide)) (fun r h9 hq9 => ?_)
        obtain ⟨rfl, rfl⟩ := hq9
        refine g_ireturn (ty := .int) rfl rfl rfl ?_
        refine ⟨?_, ⟨by rw [List.length_set]; exact vz.1, fun q hq => by rw [s_set_ne (by omega)]; exact vz.2 q hq⟩⟩
        unfold twA
        rw [ht]
theorem s_three11n {d : Nat} {h : sHp} {ik tf : Int32} {R : Nat → Int32} {c : CF} {s : Sg} {B : Nat → Int32} {S1 S2 : Int64} {fc : Nat → Int32} {ff T : Nat → Int64} {x : Int32} (hd : 10 ≤ d) (h0 : h[0]? = some (cO ik tf)) (hR : h[43]? = some (rFc R)) (F : FC h 5 c) (g : gdF c s.1 s.2.1) (sI : sgI c s) (hS : h[38]? = some (sO B S1 S2)) (h39 : h[39]? = some (.inl (0, 644, .inl fc))) (h40 : h[40]? = some (.inl (1, 644, .inr (.inl ff)))) (h41 : h[41]? = some (.inl (1, 7, .inr (.inl T)))) (hx : ¬ (s.2.2 = 3 ∧ 0 ≤ x.toInt ∧ x.toInt ≤ 2)) : sDo d 142 [.ref 0, .int x] h (fun rv h' => rv = some (.int (-5)) ∧ vE h h') := by
  have n5 := sI.2.2.2.2.2.2.2
  have e11 : (c.1 11).toInt = ((s.2.2 : Nat) : Int) := by rw [sI.2.2.1]; exact ofN_toInt (by omega)
  have en : (Int32.ofInt 3).toInt = 3 := rfl
  have fz : ∀ {d : Nat}, 3 ≤ d → ¬ s.2.2 = 3 → sDo d 98 [.ref 38, .ref 5] h (fun r h' => r = some (.int 0) ∧ vE h h' ∧ h'[43]? = some (rFc R)) := fun {d} hd hne => by
    refine sDo_of1 (nL := 4) (L := [some (.ref 38), some (.ref 5), none, none]) (by omega) rfl rfl ?_
    refine g_aload_n (i := 0) rfl rfl ?_
    refine g_sipush (n := 1000) rfl ?_
    refine g_virt1 rfl (by decide) rfl hS rfl (Nat.le_of_ble_eq_true rfl) (s_forget (d := d - 1) (x := (Int16.ofInt 1000).toInt32) (by omega) hS) (fun r h1 hq => ?_)
    obtain ⟨rfl, rfl⟩ := hq
    have FA := FC_out (q := 38) (x := sO (upd (upd (upd B 0 (Int32.ofInt (-1))) 4 (Int32.ofInt 0)) 5 (Int16.ofInt 1000).toInt32) S1 S2) F (by omega)
    refine g_aload_n (i := 1) rfl rfl ?_
    refine g_getfield (v := .int (c.1 11)) rfl FA.1 (by decide) rfl ?_
    refine g_iconst (n := 3) rfl ?_
    have k_2 : (Int32.ofInt 3).toInt = 3 := rfl
    refine g_icmp_eq 17 rfl rfl (fun c_1 => ?_) (fun c_1 => ?_)
    · skip
      rw [i_eq, e11, k_2] at c_1
      exfalso; omega
    · skip
      rw [i_eq, e11, k_2] at c_1
      refine g_iconst (n := 0) rfl ?_
      refine g_ireturn (ty := .boolean) rfl rfl (by decide) ?_
      exact ⟨rfl, ⟨List.length_set, fun q hq => s_set_ne (by omega)⟩, by rw [s_set_ne (by decide)]; exact hR⟩
  refine sDo_of1 (nL := 2) (L := [some (.ref 0), some (.int x)]) (by omega) rfl rfl ?_
  refine g_iload_n (i := 1) rfl rfl ?_
  have k_2 : (0 : Int32).toInt = 0 := rfl
  refine g_if_lt 23 rfl rfl (fun c_1 => ?_) (fun c_1 => ?_)
  · skip
    rw [i_lt, k_2] at c_1
    refine g_aload_n (i := 0) rfl rfl ?_
    refine g_bipush (n := (-5)) rfl ?_
    refine g_virt1 (Qc := fun r h' => r = some (.int (-5)) ∧ h' = h.set 43 (rFc (bump R 5))) rfl (by decide) rfl h0 rfl (Nat.le_of_ble_eq_true rfl) (s_refuse2 (X := 5) (by omega) h0 hR rfl (by decide)) (fun r h9 hq9 => ?_)
    obtain ⟨rfl, rfl⟩ := hq9
    refine g_ireturn (ty := .int) rfl rfl rfl ?_
    exact ⟨rfl, vE_43⟩
  · skip
    rw [i_lt, k_2] at c_1
    refine g_iload_n (i := 1) rfl rfl ?_
    refine g_iconst (n := 2) rfl ?_
    have k_4 : (Int32.ofInt 2).toInt = 2 := rfl
    refine g_icmp_gt 23 rfl rfl (fun c_3 => ?_) (fun c_3 => ?_)
    · skip
      rw [i_lt, k_4] at c_3
      refine g_aload_n (i := 0) rfl rfl ?_
      refine g_bipush (n := (-5)) rfl ?_
      refine g_virt1 (Qc := fun r h' => r = some (.int (-5)) ∧ h' = h.set 43 (rFc (bump R 5))) rfl (by decide) rfl h0 rfl (Nat.le_of_ble_eq_true rfl) (s_refuse2 (X := 5) (by omega) h0 hR rfl (by decide)) (fun r h9 hq9 => ?_)
      obtain ⟨rfl, rfl⟩ := hq9
      refine g_ireturn (ty := .int) rfl rfl rfl ?_
      exact ⟨rfl, vE_43⟩
    · skip
      rw [i_lt, k_4] at c_3
      refine g_aload_n (i := 0) rfl rfl ?_
      refine g_getfield (v := .ref 38) rfl h0 (by decide) rfl ?_
      refine g_aload_n (i := 0) rfl rfl ?_
      refine g_getfield (v := .ref 5) rfl h0 (by decide) rfl ?_
      refine g_virt1 rfl (by decide) rfl hS rfl (Nat.le_of_ble_eq_true rfl) (fz (d := d - 1) (by omega) (by omega)) (fun rv hz hq => ?_)
      obtain ⟨rfl, vz⟩ := hq
      have z0 := (vz.1.2 0 (by decide)).trans h0
      have z43 := vz.2
      refine g_if_ne 30 rfl rfl (fun hc => absurd hc (by decide)) (fun _ => ?_)
      refine g_aload_n (i := 0) rfl rfl ?_
      refine g_bipush (n := (-5)) rfl ?_
      refine g_virt1 (Qc := fun r h' => r = some (.int (-5)) ∧ h' = hz.set 43 (rFc (bump R 5))) rfl (by decide) rfl z0 rfl (Nat.le_of_ble_eq_true rfl) (s_refuse2 (X := 5) (by omega) z0 z43 rfl (by decide)) (fun r h9 hq9 => ?_)
      obtain ⟨rfl, rfl⟩ := hq9
      refine g_ireturn (ty := .int) rfl rfl rfl ?_
      exact ⟨rfl, ⟨by rw [List.length_set]; exact vz.1.1, fun q hq => by rw [s_set_ne (by omega)]; exact vz.1.2 q hq⟩⟩
theorem s_three12n {d : Nat} {h : sHp} {m : MF} {s : Sg} {R : Nat → Int32} {x : Int32} (hd : 4 ≤ d) (M : MC h m) (hR : h[61]? = some (rFc R)) (sJ : sgJ m.1 s) (hx : ¬ (s.2.2 = 3 ∧ 0 ≤ x.toInt ∧ x.toInt ≤ 2)) : sDo d 236 [.ref 60, .int x] h (qB m (-5)) := by
  have n5 := sJ.2.2.2.2.2.2.2
  have e6 : (m.1 6).toInt = ((s.2.2 : Nat) : Int) := by rw [sJ.2.2.1]; exact ofN_toInt (by omega)
  have en : (Int32.ofInt 3).toInt = 3 := rfl
  refine sDo_of1 (nL := 5) (L := [some (.ref 60), some (.int x), none, none, none]) (by omega) rfl rfl ?_
  refine g_aload_n (i := 0) rfl rfl ?_
  refine g_getfield (v := .int (m.1 6)) rfl M.1 (by decide) rfl ?_
  refine g_iconst (n := 3) rfl ?_
  have k_2 : (Int32.ofInt 3).toInt = 3 := rfl
  refine g_icmp_ne 17 rfl rfl (fun c_1 => ?_) (fun c_1 => ?_)
  · skip
    rw [i_eq, e6, k_2] at c_1
    refine g_aload_n (i := 0) rfl rfl ?_
    refine g_bipush (n := (-5)) rfl ?_
    refine g_virt1 (Qc := fun r h' => r = some (.int ((Int8.ofInt (-5)).toInt32)) ∧ h' = h.set 61 (rFc (bump R 5))) rfl (by decide) rfl M.1 rfl (Nat.le_of_ble_eq_true rfl) (s_no2 (X := 5) (by omega) M.1 hR rfl (by decide)) (fun r h9 hq9 => ?_)
    obtain ⟨rfl, rfl⟩ := hq9
    refine g_ireturn (ty := .int) rfl rfl rfl ?_
    exact ⟨rfl, m.2.2.1, by rw [s_set_ne (by decide)]; exact M.2.2.1, fun _ _ => rfl⟩
  · skip
    rw [i_eq, e6, k_2] at c_1
    refine g_iload_n (i := 1) rfl rfl ?_
    have k_4 : (0 : Int32).toInt = 0 := rfl
    refine g_if_lt 17 rfl rfl (fun c_3 => ?_) (fun c_3 => ?_)
    · skip
      rw [i_lt, k_4] at c_3
      refine g_aload_n (i := 0) rfl rfl ?_
      refine g_bipush (n := (-5)) rfl ?_
      refine g_virt1 (Qc := fun r h' => r = some (.int ((Int8.ofInt (-5)).toInt32)) ∧ h' = h.set 61 (rFc (bump R 5))) rfl (by decide) rfl M.1 rfl (Nat.le_of_ble_eq_true rfl) (s_no2 (X := 5) (by omega) M.1 hR rfl (by decide)) (fun r h9 hq9 => ?_)
      obtain ⟨rfl, rfl⟩ := hq9
      refine g_ireturn (ty := .int) rfl rfl rfl ?_
      exact ⟨rfl, m.2.2.1, by rw [s_set_ne (by decide)]; exact M.2.2.1, fun _ _ => rfl⟩
    · skip
      rw [i_lt, k_4] at c_3
      refine g_iload_n (i := 1) rfl rfl ?_
      refine g_iconst (n := 2) rfl ?_
      have k_6 : (Int32.ofInt 2).toInt = 2 := rfl
      refine g_icmp_le 24 rfl rfl (fun c_5 => ?_) (fun c_5 => ?_)
      · skip
        rw [i_le, k_6] at c_5
        exfalso; omega
      · skip
        rw [i_le, k_6] at c_5
        refine g_aload_n (i := 0) rfl rfl ?_
        refine g_bipush (n := (-5)) rfl ?_
        refine g_virt1 (Qc := fun r h' => r = some (.int ((Int8.ofInt (-5)).toInt32)) ∧ h' = h.set 61 (rFc (bump R 5))) rfl (by decide) rfl M.1 rfl (Nat.le_of_ble_eq_true rfl) (s_no2 (X := 5) (by omega) M.1 hR rfl (by decide)) (fun r h9 hq9 => ?_)
        obtain ⟨rfl, rfl⟩ := hq9
        refine g_ireturn (ty := .int) rfl rfl rfl ?_
        exact ⟨rfl, m.2.2.1, by rw [s_set_ne (by decide)]; exact M.2.2.1, fun _ _ => rfl⟩
theorem pr9_three (x : Int32) : pairR bR9 142 236 [.int x] := pr_oR (c1 := cn_X11_three_0) (c2 := cn_X12_three_0) ch_X11_three_0 ch_X12_three_0 (by decide +kernel) (by decide +kernel) (by decide +kernel) (by decide +kernel) rfl rfl (fun h hH => ⟨bt0 hH, vI0 x, trivial⟩) (fun h hH => ⟨bt60 hH, vI0 x, trivial⟩) (by decide +kernel) (by decide +kernel) (fun h hH hR => by
  obtain ⟨⟨hd, so, sz, co, cl, f, gg, q4, bs⟩, c, ck, m, gk, ik, tf, kc, km, ej, rl, rk⟩ := hR
  have F := kc.1
  have h0 := kc.2.2.1
  have M := km.1
  obtain ⟨R, hR43⟩ := RA_of hH (p := 43) (Or.inl rfl)
  obtain ⟨s, sI, sJ, g, gM⟩ := RN_sg rl.1.1
  have n5 := sI.2.2.2.2.2.2.2
  have hn := gdF_n g
  have PO := rl.2 s sI
  obtain ⟨B, S1, S2, fc, ff, s38, s39, s40⟩ := SO_of2 hH
  obtain ⟨T, s41⟩ := trial_of hH
  by_cases hx : s.2.2 = 3 ∧ 0 ≤ x.toInt ∧ x.toInt ≤ 2
  · refine ⟨_, m.2.2.1, M.2.2.1, sDo_mono (s_three11 (d := 10) (m := m) (by omega) h0 hR43 F g rl.1 sI s38 s39 s40 s41 hx.1 hx.2) (fun r h' q => q), fun h1 hH1 E => ?_⟩
    obtain ⟨Rm, hRm⟩ := RA_of hH1 (p := 61) (Or.inr rfl)
    obtain ⟨fc1, f76, -, -⟩ := bA60 hH1 (p := 76) (by decide) rfl
    obtain ⟨sp1, f77, -, -⟩ := bA60 hH1 (p := 77) (by decide) rfl
    exact s_three12 (d := 10) (by omega) (MC_vE M E) hRm gM g rl.1 sI sJ f76 f77 hx.1 hx.2
  · refine ⟨_, m.2.2.1, M.2.2.1, sDo_mono (s_three11n (d := 10) (by omega) h0 hR43 F g sI s38 s39 s40 s41 hx) (fun r h' q => q), fun h1 hH1 E => ?_⟩
    obtain ⟨Rm, hRm⟩ := RA_of hH1 (p := 61) (Or.inr rfl)
    exact s_three12n (d := 10) (by omega) (MC_vE M E) hRm sJ hx)
end
