/-! ===== shelves, fields and owners together ===== -/
def bR9 (h : sHp) : Prop := bR5 h ∧ bFL RO h
def bR9M : List Nat := bRM ++ (KBc ++ (KBm ++ [15 * 64, 63 * 64]))
theorem bR9_fr {W gg : Nat} {h h' : sHp} (hH' : bH h') (a : bFr W gg h h') (hW : ∀ b ∈ bR9M, W.testBit b = false) (q : bR9 h) : bR9 h' := ⟨bR5_fr a (fun b hb => hW b (List.mem_append_left _ hb)) q.1, bFL_fr RO_ok hH' a (fun b hb => hW b (List.mem_append_right _ (List.mem_append_left _ hb))) (hW _ (List.mem_append_right _ (List.mem_append_right _ (List.mem_append_right _ (List.mem_cons_self ..))))) (fun b hb => hW b (List.mem_append_right _ (List.mem_append_right _ (List.mem_append_left _ hb)))) (hW _ (List.mem_append_right _ (List.mem_append_right _ (List.mem_append_right _ (List.mem_cons_of_mem _ (List.mem_cons_self ..)))))) q.2⟩
/-- the owners stand as before, though they were moved meanwhile -/
theorem bR9_back {W gg : Nat} {h h' : sHp} {ow : Nat → Int32} (hH' : bH h') (a : bFr W gg h h') (hW : ∀ b ∈ bRM ++ (KBc ++ (KBm ++ [15 * 64])), W.testBit b = false) (q : bR9 h) (h63 : h[63]? = some (.inl (0, 64, .inl ow))) (b : ∃ ow', h'[63]? = some (.inl (0, 64, .inl ow')) ∧ ∀ q, q < 64 → ow' q = ow q) : bR9 h' := by
  obtain ⟨q5, c, ck, m, g, ik, tf, kc, km, ej, rl, rk⟩ := q
  obtain ⟨ow', e63, eo⟩ := b
  obtain ⟨J', km', eJ, e37⟩ := kM_frO hH' a (fun b hb => hW b (List.mem_append_right _ (List.mem_append_right _ (List.mem_append_left _ hb)))) e63 km
  have kc' := kC_fr a (fun b hb => hW b (List.mem_append_right _ (List.mem_append_left _ hb))) (hW _ (List.mem_append_right _ (List.mem_append_right _ (List.mem_append_right _ (List.mem_cons_self ..))))) kc
  have eow : ow = m.2.2.1 := by
    have := h63.symm.trans km.1.2.2.1
    cases this
    rfl
  subst eow
  obtain ⟨s, sI, sJ, gF, -⟩ := RN_sg rl.1.1
  have hn := gdF_n gF
  have r2 : RO c (m.1, m.2.1, ow', m.2.2.2) := by
    have k := RO_ow (o1 := c.2.2.2.2.2.2) (o2 := ow') rl sI (PT_ext hn.1 (fun _ _ => rfl) (fun q hq => eo q (by omega)) (rl.2 s sI))
    exact k
  exact ⟨bR5_fr a (fun b hb => hW b (List.mem_append_left _ hb)) q5, c, ck, _, g, ik, tf, kc', km', e37.trans ej, RO_ok.1 _ _ _ r2 ⟨eJ, rfl⟩, rk⟩
theorem pr_oR {c1 c2 : bCn} {as : List Value} (h1 : bHolds c1) (h2 : bHolds c2) (d1 : Nat.ble c1.2.1 10 = true) (d2 : Nat.ble c2.2.1 10 = true) (g1 : Nat.ble c1.2.2.2.2.2.1 1 = true) (g2 : Nat.ble c2.2.2.2.2.2.1 1 = true) (o1 : c1.2.2.2.1 = []) (o2 : c2.2.2.2.1 = []) (t1 : ∀ h, bH h → bTl h c1.2.2.1 (.ref 0 :: as)) (t2 : ∀ h, bH h → bTl h c2.2.2.1 (.ref 60 :: as)) (w1 : ∀ b ∈ bR9M, c1.2.2.2.2.1.testBit b = false) (w2 : ∀ b ∈ bRM ++ (KBc ++ (KBm ++ [15 * 64])), c2.2.2.2.2.1.testBit b = false) (e : ∀ h, bH h → bR9 h → ∃ (v : Value) (ow : Nat → Int32), h[63]? = some (.inl (0, 64, .inl ow)) ∧ sDo 10 c1.1 (.ref 0 :: as) h (fun r h1 => r = some v ∧ vE h h1) ∧ ∀ h1, bH h1 → vE h h1 → sDo 10 c2.1 (.ref 60 :: as) h1 (fun r h2 => r = some v ∧ ∃ ow', h2[63]? = some (.inl (0, 64, .inl ow')) ∧ ∀ q, q < 64 → ow' q = ow q)) : pairR bR9 c1.1 c2.1 as :=
  pr_mk h1 h2 d1 d2 g1 g2 o1 o2 t1 t2 (fun h hH hR => by
    obtain ⟨v, ow, h63, e1, e2⟩ := e h hH hR
    exact sDo_mono e1 (fun r1 h1' q hH1 fr1 => sDo_mono (e2 h1' hH1 q.2) (fun r2 h2' p hH2 fr2 => ⟨bR9_back hH2 fr2 w2 (bR9_fr hH1 fr1 w1 hR) (vE_at q.2 h63 (by decide)) p.2, v, q.1, p.1⟩)))
theorem RO_fo : relFo RO := fun c m s i b r q hi hb => RO_mk (s := s) (RB_fo c m s i b r.1 q hi hb) q (r.2 s q)
theorem pr9_row (s : Int32) (a : Int32) (x : Int32) : pairR bR9 114 178 [.int s, .int a, .int x] := pr_and (R := bR5) (P := bFL RO) (c1 := cn_X11_row_0) (c2 := cn_X12_row_0) (pr_row s a x) (fun hH a q => bFL_fr RO_ok hH a (by decide +kernel) (by decide +kernel) (by decide +kernel) (by decide +kernel) q) (fun hH a q => bFL_fr RO_ok hH a (by decide +kernel) (by decide +kernel) (by decide +kernel) (by decide +kernel) q) ch_X11_row_0 ch_X12_row_0 (by decide +kernel) (by decide +kernel) rfl rfl (fun h hH => ⟨bt0 hH, vI0 s, vI0 a, vI0 x, trivial⟩) (fun h hH => ⟨bt60 hH, vI0 s, vI0 a, vI0 x, trivial⟩)
theorem pr9_set (s : Int32) (i : Int32) (v : Int64) : pairR bR9 115 179 [.int s, .int i, .long v] := pr_and (R := bR5) (P := bFL RO) (c1 := cn_X11_set_0) (c2 := cn_X12_set_0) (pr_set s i v) (fun hH a q => bFL_fr RO_ok hH a (by decide +kernel) (by decide +kernel) (by decide +kernel) (by decide +kernel) q) (fun hH a q => bFL_fr RO_ok hH a (by decide +kernel) (by decide +kernel) (by decide +kernel) (by decide +kernel) q) ch_X11_set_0 ch_X12_set_0 (by decide +kernel) (by decide +kernel) rfl rfl (fun h hH => ⟨bt0 hH, vI0 s, vI0 i, vL0 v, trivial⟩) (fun h hH => ⟨bt60 hH, vI0 s, vI0 i, vL0 v, trivial⟩)
theorem pr9_cut (s : Int32) (c : Int32) : pairR bR9 118 182 [.int s, .int c] := pr_and (R := bR5) (P := bFL RO) (c1 := cn_X11_cut_0) (c2 := cn_X12_cut_0) (pr_cut s c) (fun hH a q => bFL_fr RO_ok hH a (by decide +kernel) (by decide +kernel) (by decide +kernel) (by decide +kernel) q) (fun hH a q => bFL_fr RO_ok hH a (by decide +kernel) (by decide +kernel) (by decide +kernel) (by decide +kernel) q) ch_X11_cut_0 ch_X12_cut_0 (by decide +kernel) (by decide +kernel) rfl rfl (fun h hH => ⟨bt0 hH, vI0 s, vI0 c, trivial⟩) (fun h hH => ⟨bt60 hH, vI0 s, vI0 c, trivial⟩)
theorem pr9_copy (p : Int32) (q : Int32) (i : Int32) (j : Int32) (n : Int32) : pairR bR9 116 180 [.int p, .int q, .int i, .int j, .int n] := pr_and (R := bR5) (P := bFL RO) (c1 := cn_X11_copy_0) (c2 := cn_X12_copy_0) (pr_copy p q i j n) (fun hH a q => bFL_fr RO_ok hH a (by decide +kernel) (by decide +kernel) (by decide +kernel) (by decide +kernel) q) (fun hH a q => bFL_fr RO_ok hH a (by decide +kernel) (by decide +kernel) (by decide +kernel) (by decide +kernel) q) ch_X11_copy_0 ch_X12_copy_0 (by decide +kernel) (by decide +kernel) rfl rfl (fun h hH => ⟨bt0 hH, vI0 p, vI0 q, vI0 i, vI0 j, vI0 n, trivial⟩) (fun h hH => ⟨bt60 hH, vI0 p, vI0 q, vI0 i, vI0 j, vI0 n, trivial⟩)
theorem pr9_size (x : Int32) (y : Int32) : pairR bR9 124 204 [.int x, .int y] := pr_swap (A := bFL RO) (B := bR5) (pr_and (R := bFL RO) (P := bR5) (c1 := cn_X11_size_0) (c2 := cn_X12_size_0) (pk_size RO_ok  x y) (fun hH a q => bR5_fr a (by decide +kernel) q) (fun hH a q => bR5_fr a (by decide +kernel) q) ch_X11_size_0 ch_X12_size_0 (by decide +kernel) (by decide +kernel) rfl rfl (fun h hH => ⟨bt0 hH, vI0 x, vI0 y, trivial⟩) (fun h hH => ⟨bt60 hH, vI0 x, vI0 y, trivial⟩))
theorem pr9_place (x : Int32) (v : Int32) : pairR bR9 126 206 [.int x, .int v] := pr_swap (A := bFL RO) (B := bR5) (pr_and (R := bFL RO) (P := bR5) (c1 := cn_X11_place_0) (c2 := cn_X12_place_0) (pk_place RO_ok  x v) (fun hH a q => bR5_fr a (by decide +kernel) q) (fun hH a q => bR5_fr a (by decide +kernel) q) ch_X11_place_0 ch_X12_place_0 (by decide +kernel) (by decide +kernel) rfl rfl (fun h hH => ⟨bt0 hH, vI0 x, vI0 v, trivial⟩) (fun h hH => ⟨bt60 hH, vI0 x, vI0 v, trivial⟩))
theorem pr9_heir (x : Int32) : pairR bR9 127 207 [.int x] := pr_swap (A := bFL RO) (B := bR5) (pr_and (R := bFL RO) (P := bR5) (c1 := cn_X11_heir_0) (c2 := cn_X12_heir_0) (pk_heir RO_ok  x) (fun hH a q => bR5_fr a (by decide +kernel) q) (fun hH a q => bR5_fr a (by decide +kernel) q) ch_X11_heir_0 ch_X12_heir_0 (by decide +kernel) (by decide +kernel) rfl rfl (fun h hH => ⟨bt0 hH, vI0 x, trivial⟩) (fun h hH => ⟨bt60 hH, vI0 x, trivial⟩))
theorem pr9_image : pairR bR9 154 254 [] := pr_swap (A := bFL RO) (B := bR5) (pr_and (R := bFL RO) (P := bR5) (c1 := cn_X11_image_0) (c2 := cn_X12_image_0) (pk_image RO_ok  ) (fun hH a q => bR5_fr a (by decide +kernel) q) (fun hH a q => bR5_fr a (by decide +kernel) q) ch_X11_image_0 ch_X12_image_0 (by decide +kernel) (by decide +kernel) rfl rfl (fun h hH => ⟨bt0 hH, trivial⟩) (fun h hH => ⟨bt60 hH, trivial⟩))
theorem pr9_restore : pairR bR9 155 255 [] := pr_swap (A := bFL RO) (B := bR5) (pr_and (R := bFL RO) (P := bR5) (c1 := cn_X11_restore_0) (c2 := cn_X12_restore_0) (pk_restore RO_ok  ) (fun hH a q => bR5_fr a (by decide +kernel) q) (fun hH a q => bR5_fr a (by decide +kernel) q) ch_X11_restore_0 ch_X12_restore_0 (by decide +kernel) (by decide +kernel) rfl rfl (fun h hH => ⟨bt0 hH, trivial⟩) (fun h hH => ⟨bt60 hH, trivial⟩))
theorem pr9_soil (x : Int32) (v : Int32) : pairR bR9 125 205 [.int x, .int v] := pr_swap (A := bFL RO) (B := bR5) (pr_and (R := bFL RO) (P := bR5) (c1 := cn_X11_soil_0) (c2 := cn_X12_soil_0) (pk_soil RO_ok (fun _ _ r => r.1) x v) (fun hH a q => bR5_fr a (by decide +kernel) q) (fun hH a q => bR5_fr a (by decide +kernel) q) ch_X11_soil_0 ch_X12_soil_0 (by decide +kernel) (by decide +kernel) rfl rfl (fun h hH => ⟨bt0 hH, vI0 x, vI0 v, trivial⟩) (fun h hH => ⟨bt60 hH, vI0 x, vI0 v, trivial⟩))
theorem pr9_worths (x : Int32) (v : Int32) (y : Int32) : pairR bR9 128 208 [.int x, .int v, .int y] := pr_swap (A := bFL RO) (B := bR5) (pr_and (R := bFL RO) (P := bR5) (c1 := cn_X11_worths_0) (c2 := cn_X12_worths_0) (pk_worths RO_ok (fun _ _ r => r.1) x v y) (fun hH a q => bR5_fr a (by decide +kernel) q) (fun hH a q => bR5_fr a (by decide +kernel) q) ch_X11_worths_0 ch_X12_worths_0 (by decide +kernel) (by decide +kernel) rfl rfl (fun h hH => ⟨bt0 hH, vI0 x, vI0 v, vI0 y, trivial⟩) (fun h hH => ⟨bt60 hH, vI0 x, vI0 v, vI0 y, trivial⟩))
theorem pr9_fond (x : Int32) (b : Int32) (hb : b = 0 ∨ b = 1) : pairR bR9 129 209 [.int x, .int b] := pr_swap (A := bFL RO) (B := bR5) (pr_and (R := bFL RO) (P := bR5) (c1 := cn_X11_fond_0) (c2 := cn_X12_fond_0) (pk_fond RO_ok (fun _ _ r => r.1) RO_fo x b hb) (fun hH a q => bR5_fr a (by decide +kernel) q) (fun hH a q => bR5_fr a (by decide +kernel) q) ch_X11_fond_0 ch_X12_fond_0 (by decide +kernel) (by decide +kernel) rfl rfl (fun h hH => ⟨bt0 hH, vI0 x, vZ0 hb, trivial⟩) (fun h hH => ⟨bt60 hH, vI0 x, vZ0 hb, trivial⟩))
theorem pr9_field (x : Int32) : pairR bR9 122 202 [.int x] := pk_field RO_ok x
/-! ===== two ===== -/
theorem g_lsw {k d pc : Nat} {L : sLo} {st : List Value} {h : sHp} {Q : Option Value → sHp → Prop} {df : Int} {ps : Array (Int × Int)} {x : Int32} (t : Nat) (hF : sFk k pc = some (.lookupswitch df ps)) (ht : sTgt pc (Op.lookupswitch.offset ps.toList df x.toInt) = some t) (g : sGo none k d t L st h Q) : sGo none k d pc L (.int x :: st) h Q := by
  refine go_jmp (pc1 := t) (st1 := st) hF rfl ?_ g
  show (sTgt pc (Op.lookupswitch.offset ps.toList df x.toInt)).map (fun t => (t, st)) = _
  rw [ht]
  rfl
theorem s_best {d : Nat} {h : sHp} {B : Nat → Int32} {S1 S2 : Int64} {x : Int32} {t : T3} {a b : Nat} (hd : 1 ≤ d) (hS : h[38]? = some (sO B S1 S2)) (bb : bsC B t) (ht : t.1 = some (a, b)) (hx : 0 ≤ x.toInt ∧ x.toInt ≤ 2) : sDo d 90 [.ref 38, .int x] h (fun r h' => h' = h ∧ r = some (.int (twA t x.toInt))) := by
  obtain ⟨t1, t2⟩ := t
  have ht : t1 = some (a, b) := ht
  subst ht
  have b1 : (B 0 = Int32.ofNat a ∧ B 4 = Int32.ofNat b) ∧ B 5 = Int32.ofNat t2 := bb
  refine sDo_of1 (nL := 2) (L := [some (.ref 38), some (.int x)]) hd rfl rfl ?_
  refine g_iload_n (i := 1) rfl rfl ?_
  rcases (show x.toInt = 0 ∨ x.toInt = 1 ∨ x.toInt = 2 by omega) with hv | hv | hv
  · skip
    refine g_lsw 28 rfl (by rw [hv]; rfl) ?_
    refine g_aload_n (i := 0) rfl rfl ?_
    refine g_getfield (v := .int (B 0)) rfl hS (by decide) rfl ?_
    refine g_ireturn (ty := .int) rfl rfl rfl ?_
    refine ⟨rfl, congrArg (fun z => some (Value.int z)) ?_⟩
    show _ = (if x.toInt = 0 then Int32.ofNat a else if x.toInt = 1 then Int32.ofNat b else Int32.ofNat t2)
    rw [if_pos hv]; exact b1.1.1
  · skip
    refine g_lsw 33 rfl (by rw [hv]; rfl) ?_
    refine g_aload_n (i := 0) rfl rfl ?_
    refine g_getfield (v := .int (B 4)) rfl hS (by decide) rfl ?_
    refine g_ireturn (ty := .int) rfl rfl rfl ?_
    refine ⟨rfl, congrArg (fun z => some (Value.int z)) ?_⟩
    show _ = (if x.toInt = 0 then Int32.ofNat a else if x.toInt = 1 then Int32.ofNat b else Int32.ofNat t2)
    rw [if_neg (show ¬ x.toInt = 0 by omega), if_pos hv]; exact b1.1.2
  · skip
    refine g_lsw 38 rfl (by rw [hv]; rfl) ?_
    refine g_aload_n (i := 0) rfl rfl ?_
    refine g_getfield (v := .int (B 5)) rfl hS (by decide) rfl ?_
    refine g_ireturn (ty := .int) rfl rfl rfl ?_
    refine ⟨rfl, congrArg (fun z => some (Value.int z)) ?_⟩
    show _ = (if x.toInt = 0 then Int32.ofNat a else if x.toInt = 1 then Int32.ofNat b else Int32.ofNat t2)
    rw [if_neg (show ¬ x.toInt = 0 by omega), if_neg (show ¬ x.toInt = 1 by omega)]; exact b1.2
theorem s_two11 {d : Nat} {h : sHp} {ik tf : Int32} {R : Nat → Int32} {c : CF} {m : MF} {s : Sg} {B : Nat → Int32} {S1 S2 : Int64} {fc : Nat → Int32} {ff T : Nat → Int64} {x : Int32} (hd : 10 ≤ d) (h0 : h[0]? = some (cO ik tf)) (hR : h[43]? = some (rFc R)) (F : FC h 5 c) (g : gdF c s.1 s.2.1) (r : RB c m) (sI : sgI c s) (hS : h[38]? = some (sO B S1 S2)) (h39 : h[39]? = some (.inl (0, 644, .inl fc))) (h40 : h[40]? = some (.inl (1, 644, .inr (.inl ff)))) (h41 : h[41]? = some (.inl (1, 7, .inr (.inl T)))) (h2 : s.2.2 = 2) (hx : 0 ≤ x.toInt ∧ x.toInt ≤ 2) : sDo d 141 [.ref 0, .int x] h (fun rv h' => rv = some (.int (twA (twL m s (lsT s.1 s.2.1 true false) (none, 1000)) x.toInt)) ∧ vE h h') := by
  refine sDo_of1 (nL := 2) (L := [some (.ref 0), some (.int x)]) (by omega) rfl rfl ?_
  refine g_iload_n (i := 1) rfl rfl ?_
  have k_2 : (0 : Int32).toInt = 0 := rfl
  refine g_if_lt 23 rfl rfl (fun c_1 => ?_) (fun c_1 => ?_)
  · skip
    rw [i_lt, k_2] at c_1
    exfalso; omega
  · skip
    rw [i_lt, k_2] at c_1
    refine g_iload_n (i := 1) rfl rfl ?_
    refine g_iconst (n := 2) rfl ?_
    have k_4 : (Int32.ofInt 2).toInt = 2 := rfl
    refine g_icmp_gt 23 rfl rfl (fun c_3 => ?_) (fun c_3 => ?_)
    · skip
      rw [i_lt, k_4] at c_3
      exfalso; omega
    · skip
      rw [i_lt, k_4] at c_3
      refine g_aload_n (i := 0) rfl rfl ?_
      refine g_getfield (v := .ref 38) rfl h0 (by decide) rfl ?_
      refine g_aload_n (i := 0) rfl rfl ?_
      refine g_getfield (v := .ref 5) rfl h0 (by decide) rfl ?_
      refine g_virt1 rfl (by decide) rfl hS rfl (Nat.le_of_ble_eq_true rfl) (s_find2 (d := d - 1) (m := m) (s := s) (by omega) F g r sI h2 hS h39 h40 h41) (fun rv hz hq => ?_)
      obtain ⟨hv, E, B2, hS2, b2⟩ := hq
      have z0 := (E.2 0 (by decide)).trans h0
      have z43 := (E.2 43 (by decide)).trans hR
      have vz : vE h hz := ⟨E.1, fun q hq => E.2 q (by omega)⟩
      generalize twL m s (lsT s.1 s.2.1 true false) (none, 1000) = t at hv b2 ⊢
      rcases hv with ⟨rfl, ht⟩ | ⟨rfl, ht⟩
      · skip
        obtain ⟨⟨a, b⟩, ht⟩ : ∃ p, t.1 = some p := by
          cases e : t.1 with
          | none => exact absurd e ht
          | some p => exact ⟨p, rfl⟩
        refine g_if_ne 30 rfl rfl (fun _ => ?_) (fun hc => absurd hc (by decide))
        refine g_aload_n (i := 0) rfl rfl ?_
        refine g_getfield (v := .ref 38) rfl z0 (by decide) rfl ?_
        refine g_iload_n (i := 1) rfl rfl ?_
        refine g_virt1 (Qc := fun r h' => h' = hz ∧ r = some (.int (twA t x.toInt))) rfl (by decide) rfl hS2 rfl (Nat.le_of_ble_eq_true rfl) (s_best (by omega) hS2 b2 ht hx) (fun r hz hq9 => ?_)
        obtain ⟨rfl, rfl⟩ := hq9
        refine g_ireturn (ty := .int) rfl rfl rfl ?_
        exact ⟨rfl, vz⟩
      · skip
        refine g_if_ne 30 rfl rfl (fun hc => absurd hc (by decide)) (fun _ => ?_)
        refine g_aload_n (i := 0) rfl rfl ?_
        refine g_bipush (n := (-5)) rfl ?_
        refine g_virt1 (Qc := fun r h' => r = some (.int (-5)) ∧ h' = hz.set 43 (rFc (bump R 5))) rfl (by decide) rfl z0 rfl (Nat.le_of_ble_eq_true rfl) (s_refuse2 (X := 5) (by omega) z0 z43 rfl (by decide)) (fun r h9 hq9 => ?_)
        obtain ⟨rfl, rfl⟩ := hq9
        refine g_ireturn (ty := .int) rfl rfl rfl ?_
        refine ⟨?_, ⟨by rw [List.length_set]; exact vz.1, fun q hq => by rw [s_set_ne (by omega)]; exact vz.2 q hq⟩⟩
        unfold twA
        rw [ht]
theorem s_two11n {d : Nat} {h : sHp} {ik tf : Int32} {R : Nat → Int32} {c : CF} {s : Sg} {B : Nat → Int32} {S1 S2 : Int64} {fc : Nat → Int32} {ff T : Nat → Int64} {x : Int32} (hd : 10 ≤ d) (h0 : h[0]? = some (cO ik tf)) (hR : h[43]? = some (rFc R)) (F : FC h 5 c) (g : gdF c s.1 s.2.1) (sI : sgI c s) (hS : h[38]? = some (sO B S1 S2)) (h39 : h[39]? = some (.inl (0, 644, .inl fc))) (h40 : h[40]? = some (.inl (1, 644, .inr (.inl ff)))) (h41 : h[41]? = some (.inl (1, 7, .inr (.inl T)))) (hx : ¬ (s.2.2 = 2 ∧ 0 ≤ x.toInt ∧ x.toInt ≤ 2)) : sDo d 141 [.ref 0, .int x] h (fun rv h' => rv = some (.int (-5)) ∧ vE h h') := by
  have n5 := sI.2.2.2.2.2.2.2
  have e11 : (c.1 11).toInt = ((s.2.2 : Nat) : Int) := by rw [sI.2.2.1]; exact ofN_toInt (by omega)
  have en : (Int32.ofInt 2).toInt = 2 := rfl
  have fz : ∀ {d : Nat}, 3 ≤ d → ¬ s.2.2 = 2 → sDo d 97 [.ref 38, .ref 5] h (fun r h' => r = some (.int 0) ∧ vE h h' ∧ h'[43]? = some (rFc R)) := fun {d} hd hne => by
    refine sDo_of1 (nL := 4) (L := [some (.ref 38), some (.ref 5), none, none]) (by omega) rfl rfl ?_
    refine g_aload_n (i := 0) rfl rfl ?_
    refine g_sipush (n := 1000) rfl ?_
    refine g_virt1 rfl (by decide) rfl hS rfl (Nat.le_of_ble_eq_true rfl) (s_forget (d := d - 1) (x := (Int16.ofInt 1000).toInt32) (by omega) hS) (fun r h1 hq => ?_)
    obtain ⟨rfl, rfl⟩ := hq
    have FA := FC_out (q := 38) (x := sO (upd (upd (upd B 0 (Int32.ofInt (-1))) 4 (Int32.ofInt 0)) 5 (Int16.ofInt 1000).toInt32) S1 S2) F (by omega)
    refine g_aload_n (i := 1) rfl rfl ?_
    refine g_getfield (v := .int (c.1 11)) rfl FA.1 (by decide) rfl ?_
    refine g_iconst (n := 2) rfl ?_
    have k_2 : (Int32.ofInt 2).toInt = 2 := rfl
    refine g_icmp_eq 17 rfl rfl (fun c_1 => ?_) (fun c_1 => ?_)
    · skip
      rw [i_eq, e11, k_2] at c_1
      exfalso; omega
    · skip
      rw [i_eq, e11, k_2] at c_1
      refine g_iconst (n := 0) rfl ?_
      refine g_ireturn (ty := .boolean) rfl rfl (by decide) ?_
      exact ⟨rfl, ⟨List.length_set, fun q hq => s_set_ne (by omega)⟩, by rw [s_set_ne (by decide)]; exact hR⟩
  refine sDo_of1 (nL := 2) (L := [some (.ref 0), some (.int x)]) (by omega) rfl rfl ?_
  refine g_iload_n (i := 1) rfl rfl ?_
  have k_2 : (0 : Int32).toInt = 0 := rfl
  refine g_if_lt 23 rfl rfl (fun c_1 => ?_) (fun c_1 => ?_)
  · skip
    rw [i_lt, k_2] at c_1
    refine g_aload_n (i := 0) rfl rfl ?_
    refine g_bipush (n := (-5)) rfl ?_
    refine g_virt1 (Qc := fun r h' => r = some (.int (-5)) ∧ h' = h.set 43 (rFc (bump R 5))) rfl (by decide) rfl h0 rfl (Nat.le_of_ble_eq_true rfl) (s_refuse2 (X := 5) (by omega) h0 hR rfl (by decide)) (fun r h9 hq9 => ?_)
    obtain ⟨rfl, rfl⟩ := hq9
    refine g_ireturn (ty := .int) rfl rfl rfl ?_
    exact ⟨rfl, vE_43⟩
  · skip
    rw [i_lt, k_2] at c_1
    refine g_iload_n (i := 1) rfl rfl ?_
    refine g_iconst (n := 2) rfl ?_
    have k_4 : (Int32.ofInt 2).toInt = 2 := rfl
    refine g_icmp_gt 23 rfl rfl (fun c_3 => ?_) (fun c_3 => ?_)
    · skip
      rw [i_lt, k_4] at c_3
      refine g_aload_n (i := 0) rfl rfl ?_
      refine g_bipush (n := (-5)) rfl ?_
      refine g_virt1 (Qc := fun r h' => r = some (.int (-5)) ∧ h' = h.set 43 (rFc (bump R 5))) rfl (by decide) rfl h0 rfl (Nat.le_of_ble_eq_true rfl) (s_refuse2 (X := 5) (by omega) h0 hR rfl (by decide)) (fun r h9 hq9 => ?_)
      obtain ⟨rfl, rfl⟩ := hq9
      refine g_ireturn (ty := .int) rfl rfl rfl ?_
      exact ⟨rfl, vE_43⟩
    · skip
      rw [i_lt, k_4] at c_3
      refine g_aload_n (i := 0) rfl rfl ?_
      refine g_getfield (v := .ref 38) rfl h0 (by decide) rfl ?_
      refine g_aload_n (i := 0) rfl rfl ?_
      refine g_getfield (v := .ref 5) rfl h0 (by decide) rfl ?_
      refine g_virt1 rfl (by decide) rfl hS rfl (Nat.le_of_ble_eq_true rfl) (fz (d := d - 1) (by omega) (by omega)) (fun rv hz hq => ?_)
      obtain ⟨rfl, vz⟩ := hq
      have z0 := (vz.1.2 0 (by decide)).trans h0
      have z43 := vz.2
      refine g_if_ne 30 rfl rfl (fun hc => absurd hc (by decide)) (fun _ => ?_)
      refine g_aload_n (i := 0) rfl rfl ?_
      refine g_bipush (n := (-5)) rfl ?_
      refine g_virt1 (Qc := fun r h' => r = some (.int (-5)) ∧ h' = hz.set 43 (rFc (bump R 5))) rfl (by decide) rfl z0 rfl (Nat.le_of_ble_eq_true rfl) (s_refuse2 (X := 5) (by omega) z0 z43 rfl (by decide)) (fun r h9 hq9 => ?_)
      obtain ⟨rfl, rfl⟩ := hq9
      refine g_ireturn (ty := .int) rfl rfl rfl ?_
      exact ⟨rfl, ⟨by rw [List.length_set]; exact vz.1.1, fun q hq => by rw [s_set_ne (by omega)]; exact vz.1.2 q hq⟩⟩
theorem s_two12n {d : Nat} {h : sHp} {m : MF} {s : Sg} {R : Nat → Int32} {x : Int32} (hd : 4 ≤ d) (M : MC h m) (hR : h[61]? = some (rFc R)) (sJ : sgJ m.1 s) (hx : ¬ (s.2.2 = 2 ∧ 0 ≤ x.toInt ∧ x.toInt ≤ 2)) : sDo d 235 [.ref 60, .int x] h (qB m (-5)) := by
  have n5 := sJ.2.2.2.2.2.2.2
  have e6 : (m.1 6).toInt = ((s.2.2 : Nat) : Int) := by rw [sJ.2.2.1]; exact ofN_toInt (by omega)
  have en : (Int32.ofInt 2).toInt = 2 := rfl
  refine sDo_of1 (nL := 5) (L := [some (.ref 60), some (.int x), none, none, none]) (by omega) rfl rfl ?_
  refine g_aload_n (i := 0) rfl rfl ?_
  refine g_getfield (v := .int (m.1 6)) rfl M.1 (by decide) rfl ?_
  refine g_iconst (n := 2) rfl ?_
  have k_2 : (Int32.ofInt 2).toInt = 2 := rfl
  refine g_icmp_ne 17 rfl rfl (fun c_1 => ?_) (fun c_1 => ?_)
  · skip
    rw [i_eq, e6, k_2] at c_1
    refine g_aload_n (i := 0) rfl rfl ?_
    refine g_bipush (n := (-5)) rfl ?_
    refine g_virt1 (Qc := fun r h' => r = some (.int ((Int8.ofInt (-5)).toInt32)) ∧ h' = h.set 61 (rFc (bump R 5))) rfl (by decide) rfl M.1 rfl (Nat.le_of_ble_eq_true rfl) (s_no2 (X := 5) (by omega) M.1 hR rfl (by decide)) (fun r h9 hq9 => ?_)
    obtain ⟨rfl, rfl⟩ := hq9
    refine g_ireturn (ty := .int) rfl rfl rfl ?_
    exact ⟨rfl, m.2.2.1, by rw [s_set_ne (by decide)]; exact M.2.2.1, fun _ _ => rfl⟩
  · skip
    rw [i_eq, e6, k_2] at c_1
    refine g_iload_n (i := 1) rfl rfl ?_
    have k_4 : (0 : Int32).toInt = 0 := rfl
    refine g_if_lt 17 rfl rfl (fun c_3 => ?_) (fun c_3 => ?_)
    · skip
      rw [i_lt, k_4] at c_3
      refine g_aload_n (i := 0) rfl rfl ?_
      refine g_bipush (n := (-5)) rfl ?_
      refine g_virt1 (Qc := fun r h' => r = some (.int ((Int8.ofInt (-5)).toInt32)) ∧ h' = h.set 61 (rFc (bump R 5))) rfl (by decide) rfl M.1 rfl (Nat.le_of_ble_eq_true rfl) (s_no2 (X := 5) (by omega) M.1 hR rfl (by decide)) (fun r h9 hq9 => ?_)
      obtain ⟨rfl, rfl⟩ := hq9
      refine g_ireturn (ty := .int) rfl rfl rfl ?_
      exact ⟨rfl, m.2.2.1, by rw [s_set_ne (by decide)]; exact M.2.2.1, fun _ _ => rfl⟩
    · skip
      rw [i_lt, k_4] at c_3
      refine g_iload_n (i := 1) rfl rfl ?_
      refine g_iconst (n := 2) rfl ?_
      refine g_icmp_le 24 rfl rfl (fun c_5 => ?_) (fun c_5 => ?_)
      · skip
        rw [i_le, k_2] at c_5
        exfalso; omega
      · skip
        rw [i_le, k_2] at c_5
        refine g_aload_n (i := 0) rfl rfl ?_
        refine g_bipush (n := (-5)) rfl ?_
        refine g_virt1 (Qc := fun r h' => r = some (.int ((Int8.ofInt (-5)).toInt32)) ∧ h' = h.set 61 (rFc (bump R 5))) rfl (by decide) rfl M.1 rfl (Nat.le_of_ble_eq_true rfl) (s_no2 (X := 5) (by omega) M.1 hR rfl (by decide)) (fun r h9 hq9 => ?_)
        obtain ⟨rfl, rfl⟩ := hq9
        refine g_ireturn (ty := .int) rfl rfl rfl ?_
        exact ⟨rfl, m.2.2.1, by rw [s_set_ne (by decide)]; exact M.2.2.1, fun _ _ => rfl⟩
theorem trial_of {h : sHp} (hH : bH h) : ∃ T : Nat → Int64, h[41]? = some (.inl (1, 7, .inr (.inl T))) := bA60L hH (p := 41) (by decide) rfl
theorem pr9_two (x : Int32) : pairR bR9 141 235 [.int x] := pr_oR (c1 := cn_X11_two_0) (c2 := cn_X12_two_0) ch_X11_two_0 ch_X12_two_0 (by decide +kernel) (by decide +kernel) (by decide +kernel) (by decide +kernel) rfl rfl (fun h hH => ⟨bt0 hH, vI0 x, trivial⟩) (fun h hH => ⟨bt60 hH, vI0 x, trivial⟩) (by decide +kernel) (by decide +kernel) (fun h hH hR => by
  obtain ⟨⟨hd, so, sz, co, cl, f, gg, q4, bs⟩, c, ck, m, gk, ik, tf, kc, km, ej, rl, rk⟩ := hR
  have F := kc.1
  have h0 := kc.2.2.1
  have M := km.1
  obtain ⟨R, hR43⟩ := RA_of hH (p := 43) (Or.inl rfl)
  obtain ⟨s, sI, sJ, g, gM⟩ := RN_sg rl.1.1
  have n5 := sI.2.2.2.2.2.2.2
  have hn := gdF_n g
  have PO := rl.2 s sI
  obtain ⟨B, S1, S2, fc, ff, s38, s39, s40⟩ := SO_of2 hH
  obtain ⟨T, s41⟩ := trial_of hH
  by_cases hx : s.2.2 = 2 ∧ 0 ≤ x.toInt ∧ x.toInt ≤ 2
  · refine ⟨_, m.2.2.1, M.2.2.1, sDo_mono (s_two11 (d := 10) (m := m) (by omega) h0 hR43 F g rl.1 sI s38 s39 s40 s41 hx.1 hx.2) (fun r h' q => q), fun h1 hH1 E => ?_⟩
    obtain ⟨Rm, hRm⟩ := RA_of hH1 (p := 61) (Or.inr rfl)
    obtain ⟨fc1, f76, -, -⟩ := bA60 hH1 (p := 76) (by decide) rfl
    obtain ⟨sp1, f77, -, -⟩ := bA60 hH1 (p := 77) (by decide) rfl
    exact s_two12 (d := 10) (by omega) (MC_vE M E) hRm gM g rl.1 sI sJ f76 f77 hx.1 hx.2
  · refine ⟨_, m.2.2.1, M.2.2.1, sDo_mono (s_two11n (d := 10) (by omega) h0 hR43 F g sI s38 s39 s40 s41 hx) (fun r h' q => q), fun h1 hH1 E => ?_⟩
    obtain ⟨Rm, hRm⟩ := RA_of hH1 (p := 61) (Or.inr rfl)
    exact s_two12n (d := 10) (by omega) (MC_vE M E) hRm sJ hx)
