/-! ===== the fields' ints, alike ===== -/
def nkC (h : sHp) (I : Nat → Int32) (G : Nat → Int64) (Ik : Nat → Int32) (Gk : Nat → Int64) (ik tf : Int32) : Prop := h[5]? = some (fO 5 I G) ∧ h[16]? = some (fO 16 Ik Gk) ∧ h[0]? = some (cO ik tf) ∧ fxR h 5 ∧ fxR h 16 ∧ fxR h 27
def nkM (h : sHp) (J g : Nat → Int32) : Prop := (∃ J', h[60]? = some (mO J') ∧ (∀ j, j < 7 → J' j = J j) ∧ J' 37 = J 37) ∧ h[75]? = some (.inl (0, 180, .inl g))
def RNi (I : Nat → Int32) (G : Nat → Int64) (J : Nat → Int32) : Prop := RN (I, G, (fun _ => 0), (fun _ => 0), (fun _ _ => 0), (fun _ => 0), (fun _ => 0)) (J, (fun _ => 0), (fun _ => 0), (fun _ => 0), (fun _ => 0), (fun _ => 0))
def bNK (h : sHp) : Prop := ∃ (I : Nat → Int32) (G : Nat → Int64) (Ik : Nat → Int32) (Gk : Nat → Int64) (ik tf : Int32) (J g : Nat → Int32), nkC h I G Ik Gk ik tf ∧ nkM h J g ∧ J 37 = ik ∧ RNi I G J ∧ (¬ ik = 0 → RNi Ik Gk (fun j => g (168 + j)))
def NKc : List Nat := (List.range 11).map (fun j => 0 * 64 + j) ++ ((List.range 17).map (fun j => 5 * 64 + j) ++ ((List.range 17).map (fun j => 16 * 64 + j) ++ [8 * 64, 19 * 64, 30 * 64]))
def NKm : List Nat := [3840, 3841, 3842, 3843, 3844, 3845, 3846, 3877, 4800]
theorem fxR_fr {W gg p : Nat} {h h' : sHp} (a : bFr W gg h h') (hp : p = 5 ∨ p = 16 ∨ p = 27) (hW : W.testBit ((p + 3) * 64) = false) (q : fxR h p) : fxR h' p := by
  obtain ⟨f, q1, q2⟩ := q
  rcases hp with rfl | rfl | rfl
  · exact ⟨f, bFr_arr a q1 (by decide) rfl hW, q2⟩
  · exact ⟨f, bFr_arr a q1 (by decide) rfl hW, q2⟩
  · exact ⟨f, bFr_arr a q1 (by decide) rfl hW, q2⟩
theorem nkC_fr {W gg : Nat} {h h' : sHp} {I : Nat → Int32} {G : Nat → Int64} {Ik : Nat → Int32} {Gk : Nat → Int64} {ik tf : Int32} (a : bFr W gg h h') (hW : ∀ b ∈ NKc, W.testBit b = false) (q : nkC h I G Ik Gk ik tf) : nkC h' I G Ik Gk ik tf := by
  obtain ⟨q1, q2, q3, q4, q5, q6⟩ := q
  refine ⟨bFr_obj (K := 5) (n := 17) a q1 rfl rfl (fun j hj => hW _ ?_), bFr_obj (K := 16) (n := 17) a q2 rfl rfl (fun j hj => hW _ ?_), bFr_obj (K := 0) (n := 11) a q3 rfl rfl (fun j hj => hW _ ?_), fxR_fr a (by decide) (hW _ (by decide)) q4, fxR_fr a (by decide) (hW _ (by decide)) q5, fxR_fr a (by decide) (hW _ (by decide)) q6⟩
  · exact List.mem_append_right _ (List.mem_append_left _ (List.mem_map.mpr ⟨j, List.mem_range.mpr hj, rfl⟩))
  · exact List.mem_append_right _ (List.mem_append_right _ (List.mem_append_left _ (List.mem_map.mpr ⟨j, List.mem_range.mpr hj, rfl⟩)))
  · exact List.mem_append_left _ (List.mem_map.mpr ⟨j, List.mem_range.mpr hj, rfl⟩)
theorem nkM_fr {W gg : Nat} {h h' : sHp} {J g : Nat → Int32} (hH' : bH h') (a : bFr W gg h h') (hW : ∀ b ∈ NKm, W.testBit b = false) (q : nkM h J g) : nkM h' J g := by
  obtain ⟨⟨J', q1, q2, q3⟩, q4⟩ := q
  obtain ⟨⟨J'', R⟩, M⟩ := MC_of hH'
  refine ⟨⟨J'', M.1, ?_⟩, bFr_arr a q4 (by decide) rfl (hW _ (by decide))⟩
  obtain ⟨c', h1, h2⟩ := a.2.2 60 _ q1
  have h3 := M.1
  rw [h1] at h3
  cases h3
  obtain ⟨-, -, e3, -⟩ := h2
  have k : ∀ j, (3840 + j) ∈ NKm → [Value.int (J'' 0), .int (J'' 1), .int (J'' 2), .int (J'' 3), .int (J'' 4), .int (J'' 5), .int (J'' 6), .int (J'' 7), .ref 61, .ref 62, .ref 63, .ref 64, .ref 65, .ref 66, .ref 67, .ref 68, .ref 69, .ref 70, .ref 71, .ref 72, .ref 73, .int (J'' 21), .int (J'' 22), .int (J'' 23), .int (J'' 24), .int (J'' 25), .ref 74, .ref 75, .int (J'' 28), .ref 76, .ref 77, .int (J'' 31), .int (J'' 32), .int (J'' 33), .int (J'' 34), .ref 78, .int (J'' 36), .int (J'' 37)][j]? = [Value.int (J' 0), .int (J' 1), .int (J' 2), .int (J' 3), .int (J' 4), .int (J' 5), .int (J' 6), .int (J' 7), .ref 61, .ref 62, .ref 63, .ref 64, .ref 65, .ref 66, .ref 67, .ref 68, .ref 69, .ref 70, .ref 71, .ref 72, .ref 73, .int (J' 21), .int (J' 22), .int (J' 23), .int (J' 24), .int (J' 25), .ref 74, .ref 75, .int (J' 28), .ref 76, .ref 77, .int (J' 31), .int (J' 32), .int (J' 33), .int (J' 34), .ref 78, .int (J' 36), .int (J' 37)][j]? := fun j hj => e3 j (hW _ hj)
  have inj : ∀ {x y : Int32}, (some (Value.int x) : Option Value) = some (Value.int y) → x = y := fun h => by cases h; rfl
  have ej : ∀ j, j < 7 → J'' j = J' j := fun j hj => by
    match j, hj with
    | 0, _ => exact inj (k 0 (by decide))
    | 1, _ => exact inj (k 1 (by decide))
    | 2, _ => exact inj (k 2 (by decide))
    | 3, _ => exact inj (k 3 (by decide))
    | 4, _ => exact inj (k 4 (by decide))
    | 5, _ => exact inj (k 5 (by decide))
    | 6, _ => exact inj (k 6 (by decide))
    | j + 7, hj => exact absurd hj (by omega)
  exact ⟨fun j hj => (ej j hj).trans (q2 j hj), (inj (k 37 (by decide))).trans q3⟩
theorem bNK_fr {W gg : Nat} {h h' : sHp} (hH' : bH h') (a : bFr W gg h h') (hc : ∀ b ∈ NKc, W.testBit b = false) (hm : ∀ b ∈ NKm, W.testBit b = false) (q : bNK h) : bNK h' := by
  obtain ⟨I, G, Ik, Gk, ik, tf, J, g, q1, q2, q3⟩ := q
  exact ⟨I, G, Ik, Gk, ik, tf, J, g, nkC_fr a hc q1, nkM_fr hH' a hm q2, q3⟩
/-- pairs that keep a relation -/
def pairR (R : sHp → Prop) (k1 k2 : Nat) (as : List Value) : Prop := ∀ h, bH h → R h → sDo 10 k1 (.ref 0 :: as) h (fun r1 h1 => bH h1 ∧ h1.length ≤ h.length + 1 ∧ sDo 10 k2 (.ref 60 :: as) h1 (fun r2 h2 => bH h2 ∧ h2.length ≤ h1.length + 1 ∧ R h2 ∧ ∃ x, r1 = some x ∧ r2 = some x))
theorem en_use {c : bCn} {vs : List Value} (hc : bHolds c) (hd : Nat.ble c.2.1 10 = true) (hg : Nat.ble c.2.2.2.2.2.1 1 = true) (ho : c.2.2.2.1 = []) {h : sHp} (hH : bH h) (ht : bTl h c.2.2.1 vs) : sDo 10 c.1 vs h (fun _ h' => bH h' ∧ h'.length ≤ h.length + 1 ∧ bFr c.2.2.2.2.1 c.2.2.2.2.2.1 h h') := by
  refine sDo_up (Nat.le_of_ble_eq_true hd) (sDo_mono (hc h vs hH ht (by rw [ho]; exact fun e he => by cases he)) (fun r h' hen => ⟨hen.1, ?_, hen.2.1⟩))
  have := hen.2.1.2.1
  have := Nat.le_of_ble_eq_true hg
  omega
theorem pr_mk {R : sHp → Prop} {c1 c2 : bCn} {as : List Value} (h1 : bHolds c1) (h2 : bHolds c2) (d1 : Nat.ble c1.2.1 10 = true) (d2 : Nat.ble c2.2.1 10 = true) (g1 : Nat.ble c1.2.2.2.2.2.1 1 = true) (g2 : Nat.ble c2.2.2.2.2.2.1 1 = true) (o1 : c1.2.2.2.1 = []) (o2 : c2.2.2.2.1 = []) (t1 : ∀ h, bH h → bTl h c1.2.2.1 (.ref 0 :: as)) (t2 : ∀ h, bH h → bTl h c2.2.2.1 (.ref 60 :: as)) (e : ∀ h, bH h → R h → sDo 10 c1.1 (.ref 0 :: as) h (fun r1 h1 => bH h1 → bFr c1.2.2.2.2.1 c1.2.2.2.2.2.1 h h1 → sDo 10 c2.1 (.ref 60 :: as) h1 (fun r2 h2 => bH h2 → bFr c2.2.2.2.2.1 c2.2.2.2.2.2.1 h1 h2 → R h2 ∧ ∃ x, r1 = some x ∧ r2 = some x))) : pairR R c1.1 c2.1 as := by
  intro h hH hR
  refine sDo_mono (sDo_and (e h hH hR) (en_use h1 d1 g1 o1 hH (t1 h hH))) (fun r1 h1' q => ⟨q.2.1, q.2.2.1, ?_⟩)
  exact sDo_mono (sDo_and (q.1 q.2.1 q.2.2.2) (en_use h2 d2 g2 o2 q.2.1 (t2 h1' q.2.1))) (fun r2 h2' z => ⟨z.2.1, z.2.2.1, z.1 z.2.1 z.2.2.2⟩)
theorem fr_useX {c : bCn} {vs : List Value} (hc : bHolds c) (hd : Nat.ble c.2.1 10 = true) (ho : c.2.2.2.1 = []) {h : sHp} (hH : bH h) (ht : bTl h c.2.2.1 vs) : sDo 10 c.1 vs h (fun _ h' => bFr c.2.2.2.2.1 c.2.2.2.2.2.1 h h') :=
  sDo_up (Nat.le_of_ble_eq_true hd) (sDo_mono (hc h vs hH ht (by rw [ho]; exact fun e he => by cases he)) (fun r h' hen => hen.2.1))
/-- one relation more, that both calls leave alone -/
theorem pr_and {R P : sHp → Prop} {c1 c2 : bCn} {as : List Value} (hp : pairR R c1.1 c2.1 as) (f1 : ∀ {g : Nat} {h h' : sHp}, bH h' → bFr c1.2.2.2.2.1 g h h' → P h → P h') (f2 : ∀ {g : Nat} {h h' : sHp}, bH h' → bFr c2.2.2.2.2.1 g h h' → P h → P h') (h1 : bHolds c1) (h2 : bHolds c2) (d1 : Nat.ble c1.2.1 10 = true) (d2 : Nat.ble c2.2.1 10 = true) (o1 : c1.2.2.2.1 = []) (o2 : c2.2.2.2.1 = []) (t1 : ∀ h, bH h → bTl h c1.2.2.1 (.ref 0 :: as)) (t2 : ∀ h, bH h → bTl h c2.2.2.1 (.ref 60 :: as)) : pairR (fun h => R h ∧ P h) c1.1 c2.1 as := by
  intro h hH hR
  refine sDo_mono (sDo_and (hp h hH hR.1) (fr_useX h1 d1 o1 hH (t1 h hH))) (fun r1 h1' q => ⟨q.1.1, q.1.2.1, ?_⟩)
  exact sDo_mono (sDo_and q.1.2.2 (fr_useX h2 d2 o2 q.1.1 (t2 h1' q.1.1))) (fun r2 h2' z => ⟨z.1.1, z.1.2.1, ⟨z.1.2.2.1, f2 z.1.1 z.2 (f1 q.1.1 q.2 hR.2)⟩, z.1.2.2.2⟩)
theorem nkC_43 {h : sHp} {I : Nat → Int32} {G : Nat → Int64} {Ik : Nat → Int32} {Gk : Nat → Int64} {ik tf : Int32} {c : va_E} (q : nkC h I G Ik Gk ik tf) : nkC (h.set 43 c) I G Ik Gk ik tf := by
  obtain ⟨q1, q2, q3, ⟨f5, a5, b5⟩, ⟨f6, a6, b6⟩, ⟨f7, a7, b7⟩⟩ := q
  exact ⟨by rw [s_set_ne (by decide)]; exact q1, by rw [s_set_ne (by decide)]; exact q2, by rw [s_set_ne (by decide)]; exact q3, ⟨f5, by rw [s_set_ne (by decide)]; exact a5, b5⟩, ⟨f6, by rw [s_set_ne (by decide)]; exact a6, b6⟩, ⟨f7, by rw [s_set_ne (by decide)]; exact a7, b7⟩⟩
/-- the class's part once now has become another -/
theorem nkC_5 {h h' : sHp} {I : Nat → Int32} {G : Nat → Int64} {Ik : Nat → Int32} {Gk : Nat → Int64} {ik tf : Int32} {c : CF} (q : nkC h I G Ik Gk ik tf) (F : FC h' 5 c) (E : fE 5 h h') : nkC h' c.1 c.2.1 Ik Gk ik tf := by
  obtain ⟨q1, q2, q3, q4, ⟨f6, a6, b6⟩, ⟨f7, a7, b7⟩⟩ := q
  exact ⟨F.1, (E.2 _ (by decide)).trans q2, (E.2 _ (by decide)).trans q3, F.2.2.2.1, ⟨f6, (E.2 _ (by decide)).trans a6, b6⟩, ⟨f7, (E.2 _ (by decide)).trans a7, b7⟩⟩
theorem nk_61 {h : sHp} {J g J0 : Nat → Int32} {c : va_E} (h60 : h[60]? = some (mO J)) (h75 : h[75]? = some (.inl (0, 180, .inl g))) (e : ∀ j, j < 7 → J j = J0 j) (e37 : J 37 = J0 37) : nkM (h.set 61 c) J0 g := ⟨⟨J, by rw [s_set_ne (by decide)]; exact h60, e, e37⟩, by rw [s_set_ne (by decide)]; exact h75⟩
theorem M75 {W gg : Nat} {h h' : sHp} {g : Nat → Int32} (a : bFr W gg h h') (q : h[75]? = some (.inl (0, 180, .inl g))) (hW : W.testBit 4800 = false) : h'[75]? = some (.inl (0, 180, .inl g)) := bFr_arr a q (by decide) rfl hW
theorem pn_size (x : Int32) (y : Int32) : pairR bNK 124 204 [.int x, .int y] := pr_mk (c1 := cn_X11_size_0) (c2 := cn_X12_size_0) ch_X11_size_0 ch_X12_size_0 (by decide +kernel) (by decide +kernel) (by decide +kernel) (by decide +kernel) rfl rfl (fun h hH => ⟨bt0 hH, vI0 x, vI0 y, trivial⟩) (fun h hH => ⟨bt60 hH, vI0 x, vI0 y, trivial⟩) (fun h hH hR => by
  obtain ⟨I, G, Ik, Gk, ik, tf, J, g, ⟨q5, q16, q0, x5, x16, x27⟩, qm, ej, rn, rk⟩ := hR
  obtain ⟨⟨so, sh, wo, fo, ow⟩, F, fb⟩ := FC_ext5 hH q5 x5
  obtain ⟨Rc, hRc⟩ := RA_of hH (p := 43) (Or.inl rfl)
  obtain ⟨s, sI, sJ, gF, gM⟩ := RN_sg rn
  refine sDo_mono (s_size11 (d := 10) (by omega) q0 hRc F) (fun r1 h1 q hH1 fr1 => ?_)
  obtain ⟨⟨J', M60, eJ, e37⟩, g75⟩ := nkM_fr hH1 fr1 (by decide +kernel) qm
  obtain ⟨⟨so', ow', sh', fo', va'⟩, M⟩ := MC_ext hH1 M60
  obtain ⟨Rm, hRm⟩ := RA_of hH1 (p := 61) (Or.inr rfl)
  have qC : nkC h I G Ik Gk ik tf := ⟨q5, q16, q0, x5, x16, x27⟩
  have sJ' : sgJ J' s := by obtain ⟨a, b, c, d⟩ := sJ; exact ⟨(eJ 0 (by decide)).trans a, (eJ 1 (by decide)).trans b, (eJ 6 (by decide)).trans c, d⟩
  have rnJ : RN (I, G, so, sh, wo, fo, ow) (J', so', ow', sh', fo', va') := RN_J (m := (J, so', ow', sh', fo', va')) rn eJ
  refine sDo_mono (s_size12 (x := x) (y := y) hH1 M) (fun r2 h2 p hH2 fr2 => ?_)
  have okE : okSz x y ↔ (2 ≤ x.toInt ∧ x.toInt ≤ 8 ∧ 2 ≤ y.toInt ∧ y.toInt ≤ 8) := Iff.rfl
  rcases q with ⟨k, rfl, F1, E1⟩ | ⟨k, rfl, rfl⟩
  · rcases p with ⟨-, rfl, M2⟩ | ⟨k2, -⟩
    · have nc := nkC_fr fr2 (by decide +kernel) (nkC_5 qC F1 E1)
      rw [okE] at k
      obtain ⟨X, hX⟩ : ∃ X : Nat, x.toInt = X := ⟨x.toInt.toNat, by omega⟩
      obtain ⟨Y, hY⟩ : ∃ Y : Nat, y.toInt = Y := ⟨y.toInt.toNat, by omega⟩
      have ex : x = Int32.ofNat X := Int32.toInt_inj.mp (by rw [hX, ofN_toInt (by omega)])
      have ey : y = Int32.ofNat Y := Int32.toInt_inj.mp (by rw [hY, ofN_toInt (by omega)])
      rw [ex, ey] at nc M2
      have h75 := (M75 fr2 g75 (by decide +kernel))
      have rn2 := RN_ok.2.1 _ _ s (0, X, Y, 0) rnJ sI sJ' ⟨by omega, by omega, by omega, by omega⟩
      exact ⟨⟨_, _, Ik, Gk, ik, tf, _, g, nc, ⟨⟨_, M2.1, fun _ _ => rfl, rfl⟩, h75⟩, e37.trans ej, rn2, rk⟩, _, rfl, rfl⟩
    · exact absurd k k2
  · rcases p with ⟨k2, -⟩ | ⟨-, rfl, M2⟩
    · exact absurd k2 k
    · have nc := nkC_fr fr2 (by decide +kernel) (nkC_43 (c := rFc (bump Rc 6)) qC)
      have h75 := (M75 fr2 g75 (by decide +kernel))
      exact ⟨⟨I, G, Ik, Gk, ik, tf, J, g, nc, ⟨⟨J', M2.1, eJ, e37⟩, h75⟩, ej, rn, rk⟩, _, rfl, rfl⟩)
theorem pn_place (x : Int32) (v : Int32) : pairR bNK 126 206 [.int x, .int v] := pr_mk (c1 := cn_X11_place_0) (c2 := cn_X12_place_0) ch_X11_place_0 ch_X12_place_0 (by decide +kernel) (by decide +kernel) (by decide +kernel) (by decide +kernel) rfl rfl (fun h hH => ⟨bt0 hH, vI0 x, vI0 v, trivial⟩) (fun h hH => ⟨bt60 hH, vI0 x, vI0 v, trivial⟩) (fun h hH hR => by
  obtain ⟨I, G, Ik, Gk, ik, tf, J, g, ⟨q5, q16, q0, x5, x16, x27⟩, qm, ej, rn, rk⟩ := hR
  obtain ⟨⟨so, sh, wo, fo, ow⟩, F, fb⟩ := FC_ext5 hH q5 x5
  obtain ⟨Rc, hRc⟩ := RA_of hH (p := 43) (Or.inl rfl)
  obtain ⟨s, sI, sJ, gF, gM⟩ := RN_sg rn
  have qC : nkC h I G Ik Gk ik tf := ⟨q5, q16, q0, x5, x16, x27⟩
  refine sDo_mono (s_place11 (d := 10) (x := x) (v := v) (by omega) q0 hRc F gF) (fun r1 h1 q hH1 fr1 => ?_)
  obtain ⟨⟨J', M60, eJ, e37⟩, g75⟩ := nkM_fr hH1 fr1 (by decide +kernel) qm
  obtain ⟨⟨so', ow', sh', fo', va'⟩, M⟩ := MC_ext hH1 M60
  obtain ⟨Rm, hRm⟩ := RA_of hH1 (p := 61) (Or.inr rfl)
  have sJ' : sgJ J' s := by obtain ⟨a, b, c, d⟩ := sJ; exact ⟨(eJ 0 (by decide)).trans a, (eJ 1 (by decide)).trans b, (eJ 6 (by decide)).trans c, d⟩
  have rnJ : RN (I, G, so, sh, wo, fo, ow) (J', so', ow', sh', fo', va') := RN_J (m := (J, so', ow', sh', fo', va')) rn eJ
  have gM' : gdM J' s.1 s.2.1 := ⟨sJ'.1, sJ'.2.1, sJ'.2.2.2.1, sJ'.2.2.2.2.1, sJ'.2.2.2.2.2.1, sJ'.2.2.2.2.2.2.1⟩
  refine sDo_mono (s_place12 (d := 10) (x := x) (v := v) (by omega) M hRm gM') (fun r2 h2 p hH2 fr2 => ?_)
  rcases q with ⟨K, hK, hx, k, rfl, rfl⟩ | ⟨k, rfl, rfl⟩
  · rcases p with ⟨K2, hK2, hx2, -, rfl, rfl⟩ | ⟨k2, -⟩
    · have eK : K2 = K := by omega
      subst eK
      have F1 := FC_0 (I := upd I (7 + K2) v) (G := G) F
      have nc := nkC_fr fr2 (by decide +kernel) (nkC_5 qC F1 (fE_set fE_rfl (by omega) (by omega)))
      have h75 := M75 fr2 g75 (by decide +kernel)
      rw [hx2] at k
      have rn2 := RN_ok.2.2.2.2.2 _ _ s K2 v rnJ sI hK k
      obtain ⟨W', H', N', -, -, -, -, -, -, mk⟩ := rnJ
      have ev : I (7 + K2) = J' (2 + K2) := mk K2 hK
      refine ⟨⟨_, _, Ik, Gk, ik, tf, upd J' (2 + K2) v, g, nc, ⟨⟨_, s_set_eq M60, fun _ _ => rfl, rfl⟩, h75⟩, (u_ne (by omega)).trans (e37.trans ej), rn2, rk⟩, _, rfl, ?_⟩
      exact congrArg (fun z => some (Value.int z)) ev.symm
    · exact absurd k k2
  · rcases p with ⟨-, -, -, k2, -⟩ | ⟨-, rfl, rfl⟩
    · exact absurd k2 k
    · have nc := nkC_fr fr2 (by decide +kernel) (nkC_43 (c := rFc (bump Rc 6)) qC)
      have h75 := M75 fr2 g75 (by decide +kernel)
      exact ⟨⟨I, G, Ik, Gk, ik, tf, J, g, nc, ⟨⟨J', by rw [s_set_ne (by decide)]; exact M60, eJ, e37⟩, h75⟩, ej, rn, rk⟩, _, rfl, rfl⟩)
theorem pn_heir (x : Int32) : pairR bNK 127 207 [.int x] := pr_mk (c1 := cn_X11_heir_0) (c2 := cn_X12_heir_0) ch_X11_heir_0 ch_X12_heir_0 (by decide +kernel) (by decide +kernel) (by decide +kernel) (by decide +kernel) rfl rfl (fun h hH => ⟨bt0 hH, vI0 x, trivial⟩) (fun h hH => ⟨bt60 hH, vI0 x, trivial⟩) (fun h hH hR => by
  obtain ⟨I, G, Ik, Gk, ik, tf, J, g, ⟨q5, q16, q0, x5, x16, x27⟩, qm, ej, rn, rk⟩ := hR
  obtain ⟨⟨so, sh, wo, fo, ow⟩, F, fb⟩ := FC_ext5 hH q5 x5
  obtain ⟨Rc, hRc⟩ := RA_of hH (p := 43) (Or.inl rfl)
  obtain ⟨s, sI, sJ, gF, gM⟩ := RN_sg rn
  have qC : nkC h I G Ik Gk ik tf := ⟨q5, q16, q0, x5, x16, x27⟩
  refine sDo_mono (s_heir11 (d := 10) (x := x) (N := s.2.2) (by omega) q0 hRc F sI.2.2.1 sI.2.2.2.2.2.2.2) (fun r1 h1 q hH1 fr1 => ?_)
  obtain ⟨⟨J', M60, eJ, e37⟩, g75⟩ := nkM_fr hH1 fr1 (by decide +kernel) qm
  obtain ⟨⟨so', ow', sh', fo', va'⟩, M⟩ := MC_ext hH1 M60
  obtain ⟨Rm, hRm⟩ := RA_of hH1 (p := 61) (Or.inr rfl)
  have sJ' : sgJ J' s := by obtain ⟨a, b, c, d⟩ := sJ; exact ⟨(eJ 0 (by decide)).trans a, (eJ 1 (by decide)).trans b, (eJ 6 (by decide)).trans c, d⟩
  have rnJ : RN (I, G, so, sh, wo, fo, ow) (J', so', ow', sh', fo', va') := RN_J (m := (J, so', ow', sh', fo', va')) rn eJ
  have gM' : gdM J' s.1 s.2.1 := ⟨sJ'.1, sJ'.2.1, sJ'.2.2.2.1, sJ'.2.2.2.2.1, sJ'.2.2.2.2.2.1, sJ'.2.2.2.2.2.2.1⟩
  refine sDo_mono (s_heir12 (d := 10) (x := x) (N := s.2.2) (by omega) M hRm sJ'.2.2.1 sJ'.2.2.2.2.2.2.2) (fun r2 h2 p hH2 fr2 => ?_)
  rcases q with ⟨k, k1, rfl, F1, E1⟩ | ⟨k, k1, rfl, rfl⟩ | ⟨k, rfl, rfl⟩
  · rcases p with ⟨-, -, rfl, M2, -⟩ | ⟨-, k2, -⟩ | ⟨k2, -⟩
    · have nc := nkC_fr fr2 (by decide +kernel) (nkC_5 qC F1 E1)
      have h75 := M75 fr2 g75 (by decide +kernel)
      obtain ⟨X, hX⟩ : ∃ X : Nat, x.toInt = X := ⟨x.toInt.toNat, by omega⟩
      have ex : x = Int32.ofNat X := Int32.toInt_inj.mp (by rw [hX, ofN_toInt (by omega)])
      have eN := ofN_toInt (n := s.2.2) (by omega)
      have rn2 := RN_ok.2.1 _ _ s (3, X, 0, 0) rnJ sI sJ' ⟨by omega, by omega, k1⟩
      have e1 : (I 11).toNatClampNeg = s.2.2 := by rw [show I 11 = Int32.ofNat s.2.2 from sI.2.2.1]; exact i_nat eN
      have e2 : (J' 6).toNatClampNeg = s.2.2 := by rw [show J' 6 = Int32.ofNat s.2.2 from sJ'.2.2.1]; exact i_nat eN
      have rn3 : RN (cfHeir s.2.2 x (I, G, so, sh, wo, fo, ow)) (mfHeir s.2.2 x (J', so', ow', sh', fo', va')) := by
        have rn2' : RN (cfHeir (I 11).toNatClampNeg (Int32.ofNat X) (I, G, so, sh, wo, fo, ow)) (mfHeir (J' 6).toNatClampNeg (Int32.ofNat X) (J', so', ow', sh', fo', va')) := rn2
        rw [e1, e2, ← ex] at rn2'
        exact rn2'
      exact ⟨⟨_, _, Ik, Gk, ik, tf, _, g, nc, ⟨⟨_, M2.1, fun _ _ => rfl, rfl⟩, h75⟩, e37.trans ej, rn3, rk⟩, _, rfl, rfl⟩
    · omega
    · exact absurd k k2
  · rcases p with ⟨-, k2, -⟩ | ⟨-, -, rfl, rfl⟩ | ⟨k2, -⟩
    · omega
    · have nc := nkC_fr fr2 (by decide +kernel) (nkC_43 (c := rFc (bump Rc 7)) qC)
      have h75 := M75 fr2 g75 (by decide +kernel)
      exact ⟨⟨I, G, Ik, Gk, ik, tf, J, g, nc, ⟨⟨J', by rw [s_set_ne (by decide)]; exact M60, eJ, e37⟩, h75⟩, ej, rn, rk⟩, _, rfl, rfl⟩
    · exact absurd k k2
  · rcases p with ⟨k2, -⟩ | ⟨k2, -⟩ | ⟨-, rfl, rfl⟩
    · exact absurd k2 k
    · exact absurd k2 k
    · have nc := nkC_fr fr2 (by decide +kernel) (nkC_43 (c := rFc (bump Rc 6)) qC)
      have h75 := M75 fr2 g75 (by decide +kernel)
      exact ⟨⟨I, G, Ik, Gk, ik, tf, J, g, nc, ⟨⟨J', by rw [s_set_ne (by decide)]; exact M60, eJ, e37⟩, h75⟩, ej, rn, rk⟩, _, rfl, rfl⟩)
theorem sv_at (m : MF) (g : Nat → Int32) : ∀ j, j < 7 → svF m g (168 + j) = m.1 j := fun j hj => by
  match j, hj with
  | 0, _ => rfl
  | 1, _ => rfl
  | 2, _ => rfl
  | 3, _ => rfl
  | 4, _ => rfl
  | 5, _ => rfl
  | 6, _ => rfl
  | j + 7, hj => exact absurd hj (by omega)
theorem pn_image : pairR bNK 154 254 [] := pr_mk (c1 := cn_X11_image_0) (c2 := cn_X12_image_0) ch_X11_image_0 ch_X12_image_0 (by decide +kernel) (by decide +kernel) (by decide +kernel) (by decide +kernel) rfl rfl (fun h hH => ⟨bt0 hH, trivial⟩) (fun h hH => ⟨bt60 hH, trivial⟩) (fun h hH hR => by
  obtain ⟨I, G, Ik, Gk, ik, tf, J, g, ⟨q5, q16, q0, x5, x16, x27⟩, qm, ej, rn, rk⟩ := hR
  obtain ⟨⟨so, sh, wo, fo, ow⟩, F, fb⟩ := FC_ext5 hH q5 x5
  obtain ⟨Rc, hRc⟩ := RA_of hH (p := 43) (Or.inl rfl)
  obtain ⟨s, sI, sJ, gF, gM⟩ := RN_sg rn
  have qC : nkC h I G Ik Gk ik tf := ⟨q5, q16, q0, x5, x16, x27⟩
  obtain ⟨⟨so2, sh2, wo2, fo2, ow2⟩, Fk, -⟩ := FC_ext16 hH q16 x16
  refine sDo_mono (s_image11 (d := 10) (by omega) q0 F Fk fb) (fun r1 h1 q hH1 fr1 => ?_)
  obtain ⟨rfl, F1, Fk1, z0, -, zq⟩ := q
  have M60 : ∃ J', h1[60]? = some (mO J') ∧ (∀ j, j < 7 → J' j = J j) ∧ J' 37 = J 37 := by
    obtain ⟨⟨J', a, b⟩, -⟩ := qm
    exact ⟨J', (zq 60 (by decide)).trans a, b⟩
  obtain ⟨J', M60, eJ, e37⟩ := M60
  have g75 := (zq 75 (by decide)).trans qm.2
  obtain ⟨⟨so', ow', sh', fo', va'⟩, M⟩ := MC_ext hH1 M60
  have rnJ : RN (I, G, so, sh, wo, fo, ow) (J', so', ow', sh', fo', va') := RN_J (m := (J, so', ow', sh', fo', va')) rn eJ
  refine sDo_mono (s_image12 M g75) (fun r2 h2 p hH2 fr2 => ?_)
  obtain ⟨rfl, M2, g2⟩ := p
  obtain ⟨f7, a7, b7⟩ := x27
  have nc : nkC h1 I G (cfBecome (I, G, so, sh, wo, fo, ow) (Ik, Gk, so2, sh2, wo2, fo2, ow2)).1 (cfBecome (I, G, so, sh, wo, fo, ow) (Ik, Gk, so2, sh2, wo2, fo2, ow2)).2.1 1 tf := ⟨F1.1, Fk1.1, z0, F1.2.2.2.1, Fk1.2.2.2.1, ⟨f7, (zq 30 (by decide)).trans a7, b7⟩⟩
  have nc2 := nkC_fr fr2 (by decide +kernel) nc
  have rk2 : RN (cfBecome (I, G, so, sh, wo, fo, ow) (Ik, Gk, so2, sh2, wo2, fo2, ow2)) (J', so', ow', sh', fo', va') := RN_ok.2.2.1 _ _ _ rnJ
  obtain ⟨W', H', N', -, -, c11, -, -, m6, -⟩ := id rnJ
  refine ⟨⟨I, G, _, _, 1, tf, upd J' 37 (Int32.ofInt 1), svF (J', so', ow', sh', fo', va') g, nc2, ⟨⟨_, M2.1, fun _ _ => rfl, rfl⟩, g2⟩, rfl, RN_J (m := (J', so', ow', sh', fo', va')) rnJ (fun j hj => u_ne (by omega)), fun _ => RN_J rk2 (fun j hj => sv_at _ _ j hj)⟩, _, rfl, ?_⟩
  exact congrArg (fun z => some (Value.int z)) (m6.trans c11.symm))
theorem pn_restore : pairR bNK 155 255 [] := pr_mk (c1 := cn_X11_restore_0) (c2 := cn_X12_restore_0) ch_X11_restore_0 ch_X12_restore_0 (by decide +kernel) (by decide +kernel) (by decide +kernel) (by decide +kernel) rfl rfl (fun h hH => ⟨bt0 hH, trivial⟩) (fun h hH => ⟨bt60 hH, trivial⟩) (fun h hH hR => by
  obtain ⟨I, G, Ik, Gk, ik, tf, J, g, ⟨q5, q16, q0, x5, x16, x27⟩, qm, ej, rn, rk⟩ := hR
  obtain ⟨⟨so, sh, wo, fo, ow⟩, F, fb⟩ := FC_ext5 hH q5 x5
  obtain ⟨Rc, hRc⟩ := RA_of hH (p := 43) (Or.inl rfl)
  obtain ⟨s, sI, sJ, gF, gM⟩ := RN_sg rn
  have qC : nkC h I G Ik Gk ik tf := ⟨q5, q16, q0, x5, x16, x27⟩
  obtain ⟨⟨so2, sh2, wo2, fo2, ow2⟩, Fk, fbk⟩ := FC_ext16 hH q16 x16
  refine sDo_mono (s_restore11 (d := 10) (by omega) q0 hRc F Fk fbk) (fun r1 h1 q hH1 fr1 => ?_)
  obtain ⟨⟨J', M60, eJ, e37⟩, g75⟩ := nkM_fr hH1 fr1 (by decide +kernel) qm
  obtain ⟨⟨so', ow', sh', fo', va'⟩, M⟩ := MC_ext hH1 M60
  obtain ⟨Rm, hRm⟩ := RA_of hH1 (p := 61) (Or.inr rfl)
  have sJ' : sgJ J' s := by obtain ⟨a, b, c, d⟩ := sJ; exact ⟨(eJ 0 (by decide)).trans a, (eJ 1 (by decide)).trans b, (eJ 6 (by decide)).trans c, d⟩
  have rnJ : RN (I, G, so, sh, wo, fo, ow) (J', so', ow', sh', fo', va') := RN_J (m := (J, so', ow', sh', fo', va')) rn eJ
  have gM' : gdM J' s.1 s.2.1 := ⟨sJ'.1, sJ'.2.1, sJ'.2.2.2.1, sJ'.2.2.2.2.1, sJ'.2.2.2.2.2.1, sJ'.2.2.2.2.2.2.1⟩
  have ei : J' 37 = ik := e37.trans ej
  refine sDo_mono (s_restore12 hH1 M g75) (fun r2 h2 p hH2 fr2 => ?_)
  rcases q with ⟨k, rfl, F1, E1⟩ | ⟨k, rfl, rfl⟩
  · rcases p with ⟨k2, -⟩ | ⟨-, rfl, M2, g2⟩
    · exact absurd (ei.symm.trans k2) k
    · have nc := nkC_fr fr2 (by decide +kernel) (nkC_5 qC F1 E1)
      have rk1 := rk k
      have rn2 : RN (cfBecome (Ik, Gk, so2, sh2, wo2, fo2, ow2) (I, G, so, sh, wo, fo, ow)) (mfBack (J', so', ow', sh', fo', va') g) := RN_J (RN_ok.2.2.1 (Ik, Gk, so2, sh2, wo2, fo2, ow2) (I, G, so, sh, wo, fo, ow) ((fun j => g (168 + j)), so', ow', sh', fo', va') rk1) (fun j hj => bk_at _ _ j hj)
      obtain ⟨W', H', N', -, -, c11, -, -, m6, -⟩ := id rk1
      refine ⟨⟨_, _, Ik, Gk, ik, tf, _, g, nc, ⟨⟨_, M2.1, fun _ _ => rfl, rfl⟩, g2⟩, ei, rn2, rk⟩, _, rfl, ?_⟩
      exact congrArg (fun z => some (Value.int z)) (show g 174 = Ik 11 from m6.trans c11.symm)
  · rcases p with ⟨-, rfl, M2, g2⟩ | ⟨k2, -⟩
    · have nc := nkC_fr fr2 (by decide +kernel) (nkC_43 (c := rFc (bump Rc 6)) qC)
      exact ⟨⟨I, G, Ik, Gk, ik, tf, J, g, nc, ⟨⟨J', M2.1, eJ, e37⟩, g2⟩, ej, rn, rk⟩, _, rfl, rfl⟩
    · exact absurd (ei.trans k) k2)
