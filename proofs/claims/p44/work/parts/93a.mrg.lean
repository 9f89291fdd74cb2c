section
/-! ===== two fields under a relation, now and kept ===== -/
def kC (h : sHp) (c ck : CF) (ik tf : Int32) : Prop := FC h 5 c ∧ FC h 16 ck ∧ h[0]? = some (cO ik tf) ∧ fxR h 27
def kM (h : sHp) (m : MF) (g : Nat → Int32) : Prop := MC h m ∧ h[75]? = some (.inl (0, 180, .inl g))
def bFL (Rel : CF → MF → Prop) (h : sHp) : Prop := ∃ (c ck : CF) (m : MF) (g : Nat → Int32) (ik tf : Int32), kC h c ck ik tf ∧ kM h m g ∧ m.1 37 = ik ∧ Rel c m ∧ (¬ ik = 0 → ∀ m', Rel ck (mfBack m' g))
theorem FC_tr {h h' : sHp} {p : Nat} {c : CF} (F : FC h p c) (e : ∀ q x, p ≤ q → q ≤ p + 10 → h[q]? = some x → h'[q]? = some x) : FC h' p c := by
  obtain ⟨a0, a1, a2, ⟨f, a3, a4⟩, a5, a6, a7⟩ := F
  exact ⟨e _ _ (by omega) (by omega) a0, e _ _ (by omega) (by omega) a1, e _ _ (by omega) (by omega) a2, ⟨f, e _ _ (by omega) (by omega) a3, a4⟩, fun k hk => e _ _ (by omega) (by omega) (a5 k hk), e _ _ (by omega) (by omega) a6, e _ _ (by omega) (by omega) a7⟩
theorem MC_tr {h h' : sHp} {m : MF} (M : MC h m) (e : ∀ q x, 60 ≤ q → q ≤ 66 → q ≠ 61 → h[q]? = some x → h'[q]? = some x) : MC h' m := by
  obtain ⟨a0, a1, a2, a3, a4, a5⟩ := M
  exact ⟨e _ _ (by decide) (by decide) (by decide) a0, e _ _ (by decide) (by decide) (by decide) a1, e _ _ (by decide) (by decide) (by decide) a2, e _ _ (by decide) (by decide) (by decide) a3, e _ _ (by decide) (by decide) (by decide) a4, e _ _ (by decide) (by decide) (by decide) a5⟩
theorem fx_tr {h h' : sHp} {p : Nat} (F : fxR h p) (e : ∀ q x, p ≤ q → q ≤ p + 10 → h[q]? = some x → h'[q]? = some x) : fxR h' p := by
  obtain ⟨f, a, b⟩ := F
  exact ⟨f, e _ _ (by omega) (by omega) a, b⟩
theorem kC_tr {h h' : sHp} {c ck : CF} {ik tf : Int32} (K : kC h c ck ik tf) (e : ∀ q x, q < 38 → h[q]? = some x → h'[q]? = some x) : kC h' c ck ik tf :=
  ⟨FC_tr K.1 (fun q x h1 h2 => e q x (by omega)), FC_tr K.2.1 (fun q x h1 h2 => e q x (by omega)), e _ _ (by decide) K.2.2.1, fx_tr K.2.2.2 (fun q x h1 h2 => e q x (by omega))⟩
theorem kM_tr {h h' : sHp} {m : MF} {g : Nat → Int32} (K : kM h m g) (e : ∀ q x, 60 ≤ q → q ≠ 61 → h[q]? = some x → h'[q]? = some x) : kM h' m g :=
  ⟨MC_tr K.1 (fun q x h1 h2 h3 => e q x h1 h3), e _ _ (by decide) (by decide) K.2⟩
theorem kM_43 {h : sHp} {m : MF} {g : Nat → Int32} {c : va_E} (K : kM h m g) : kM (h.set 43 c) m g := kM_tr K (fun q x h1 _ hx => by rw [s_set_ne (by omega)]; exact hx)
theorem kC_43 {h : sHp} {c ck : CF} {ik tf : Int32} {x : va_E} (K : kC h c ck ik tf) : kC (h.set 43 x) c ck ik tf := kC_tr K (fun q x h1 hx => by rw [s_set_ne (by omega)]; exact hx)
theorem kM_61 {h : sHp} {m : MF} {g : Nat → Int32} {c : va_E} (K : kM h m g) : kM (h.set 61 c) m g := kM_tr K (fun q x h1 h2 hx => by rw [s_set_ne (by omega)]; exact hx)
theorem kC_61 {h : sHp} {c ck : CF} {ik tf : Int32} {x : va_E} (K : kC h c ck ik tf) : kC (h.set 61 x) c ck ik tf := kC_tr K (fun q x h1 hx => by rw [s_set_ne (by omega)]; exact hx)
theorem kM_fE {h h' : sHp} {m : MF} {g : Nat → Int32} (K : kM h m g) (E : fE 5 h h') : kM h' m g := kM_tr K (fun q x h1 _ hx => (E.2 q (by omega)).trans hx)
theorem kC_5 {h h' : sHp} {c c1 ck : CF} {ik tf : Int32} (K : kC h c ck ik tf) (F : FC h' 5 c1) (E : fE 5 h h') : kC h' c1 ck ik tf :=
  ⟨F, FC_tr K.2.1 (fun q x h1 h2 hx => (E.2 q (by omega)).trans hx), (E.2 0 (by decide)).trans K.2.2.1, fx_tr K.2.2.2 (fun q x h1 h2 hx => (E.2 q (by omega)).trans hx)⟩
theorem kC_mE {h h' : sHp} {c ck : CF} {ik tf : Int32} (K : kC h c ck ik tf) (E : mE h h') : kC h' c ck ik tf := kC_tr K (fun q x h1 hx => (E.2 q (by omega) (by omega)).trans hx)
theorem fb_of {h : sHp} {p : Nat} {c : CF} (hH : bH h) (F : FC h p c) (hp : p = 5 ∨ p = 16) : fb01 c := by
  rcases hp with rfl | rfl
  · obtain ⟨f, a, b⟩ := bA60B hH (p := 14) (by decide) rfl
    have a' : h[14]? = some (.inl (2, 5, .inl c.2.2.2.2.2.1)) := F.2.2.2.2.2.1
    rw [a'] at a
    cases a
    exact fun k hk => i_01 (b k hk).1 (b k hk).2
  · obtain ⟨f, a, b⟩ := bA60B hH (p := 25) (by decide) rfl
    have a' : h[25]? = some (.inl (2, 5, .inl c.2.2.2.2.2.1)) := F.2.2.2.2.2.1
    rw [a'] at a
    cases a
    exact fun k hk => i_01 (b k hk).1 (b k hk).2
/-! ===== frames ===== -/
def KBc : List Nat := (List.range 11).map (fun j => 0 * 64 + j) ++ ((List.range 17).map (fun j => 5 * 64 + j) ++ ((List.range 17).map (fun j => 16 * 64 + j) ++ [6 * 64, 7 * 64, 8 * 64, 14 * 64, 17 * 64, 18 * 64, 19 * 64, 25 * 64, 26 * 64, 30 * 64, 82 * 64, 83 * 64]))
def KBm : List Nat := NKm ++ [62 * 64, 64 * 64, 65 * 64, 66 * 64]
theorem KBc_0 {j : Nat} (hj : j < 11) : 0 * 64 + j ∈ KBc := List.mem_append_left _ (List.mem_map.mpr ⟨j, List.mem_range.mpr hj, rfl⟩)
theorem KBc_5 {j : Nat} (hj : j < 17) : 5 * 64 + j ∈ KBc := List.mem_append_right _ (List.mem_append_left _ (List.mem_map.mpr ⟨j, List.mem_range.mpr hj, rfl⟩))
theorem KBc_16 {j : Nat} (hj : j < 17) : 16 * 64 + j ∈ KBc := List.mem_append_right _ (List.mem_append_right _ (List.mem_append_left _ (List.mem_map.mpr ⟨j, List.mem_range.mpr hj, rfl⟩)))
theorem FC_frO {W gg p K : Nat} {h h' : sHp} {I : Nat → Int32} {G : Nat → Int64} {so : Nat → Int64} {sh : Nat → Int32} {wo : Nat → Nat → Int32} {fo : Nat → Int32} {ow ow' : Nat → Int64} (hp : (p = 5 ∧ K = 82) ∨ (p = 16 ∧ K = 83)) (a : bFr W gg h h') (h0 : ∀ j, j < 17 → W.testBit (p * 64 + j) = false) (hj : ∀ j, j = 1 ∨ j = 2 ∨ j = 3 ∨ j = 9 → W.testBit ((p + j) * 64) = false) (hw : W.testBit (K * 64) = false) (h10 : h'[p + 10]? = some (.inl (1, 7, .inr (.inl ow')))) (F : FC h p (I, G, so, sh, wo, fo, ow)) : FC h' p (I, G, so, sh, wo, fo, ow') := by
  obtain ⟨a0, a1, a2, ⟨f, a3, a4⟩, a5, a6, a7⟩ := F
  rcases hp with ⟨rfl, rfl⟩ | ⟨rfl, rfl⟩
  · refine ⟨bFr_obj (K := 5) (n := 17) a a0 rfl rfl h0, bFr_arr a a1 (by decide) rfl (hj 1 (by decide)), bFr_arr a a2 (by decide) rfl (hj 2 (by decide)), ⟨f, bFr_arr a a3 (by decide) rfl (hj 3 (by decide)), a4⟩, fun k hk => ?_, bFr_arr a a6 (by decide) rfl (hj 9 (by decide)), h10⟩
    match k, hk with
    | 0, _ => exact bFr_arr (p := 9) (K := 82) a (a5 0 (by decide)) (by decide) rfl hw
    | 1, _ => exact bFr_arr (p := 10) (K := 82) a (a5 1 (by decide)) (by decide) rfl hw
    | 2, _ => exact bFr_arr (p := 11) (K := 82) a (a5 2 (by decide)) (by decide) rfl hw
    | 3, _ => exact bFr_arr (p := 12) (K := 82) a (a5 3 (by decide)) (by decide) rfl hw
    | 4, _ => exact bFr_arr (p := 13) (K := 82) a (a5 4 (by decide)) (by decide) rfl hw
    | k + 5, hk => exact absurd hk (by omega)
  · refine ⟨bFr_obj (K := 16) (n := 17) a a0 rfl rfl h0, bFr_arr a a1 (by decide) rfl (hj 1 (by decide)), bFr_arr a a2 (by decide) rfl (hj 2 (by decide)), ⟨f, bFr_arr a a3 (by decide) rfl (hj 3 (by decide)), a4⟩, fun k hk => ?_, bFr_arr a a6 (by decide) rfl (hj 9 (by decide)), h10⟩
    match k, hk with
    | 0, _ => exact bFr_arr (p := 20) (K := 83) a (a5 0 (by decide)) (by decide) rfl hw
    | 1, _ => exact bFr_arr (p := 21) (K := 83) a (a5 1 (by decide)) (by decide) rfl hw
    | 2, _ => exact bFr_arr (p := 22) (K := 83) a (a5 2 (by decide)) (by decide) rfl hw
    | 3, _ => exact bFr_arr (p := 23) (K := 83) a (a5 3 (by decide)) (by decide) rfl hw
    | 4, _ => exact bFr_arr (p := 24) (K := 83) a (a5 4 (by decide)) (by decide) rfl hw
    | k + 5, hk => exact absurd hk (by omega)
/-- the class's part but for the owners now -/
theorem kC_frO {W gg : Nat} {h h' : sHp} {c ck : CF} {ik tf : Int32} {ow' : Nat → Int64} (a : bFr W gg h h') (hW : ∀ b ∈ KBc, W.testBit b = false) (h15 : h'[15]? = some (.inl (1, 7, .inr (.inl ow')))) (q : kC h c ck ik tf) : kC h' (c.1, c.2.1, c.2.2.1, c.2.2.2.1, c.2.2.2.2.1, c.2.2.2.2.2.1, ow') ck ik tf := by
  obtain ⟨F, Fk, q0, ⟨f, f1, f2⟩⟩ := q
  obtain ⟨I, G, so, sh, wo, fo, ow⟩ := c
  obtain ⟨Ik, Gk, sok, shk, wok, fok, owk⟩ := ck
  refine ⟨FC_frO (Or.inl ⟨rfl, rfl⟩) a (fun j hj => hW _ (KBc_5 hj)) (fun j hj => ?_) (hW _ (by decide)) h15 F, FC_frO (Or.inr ⟨rfl, rfl⟩) a (fun j hj => hW _ (KBc_16 hj)) (fun j hj => ?_) (hW _ (by decide)) (bFr_arr a Fk.2.2.2.2.2.2 (by decide) rfl (hW _ (by decide))) Fk, bFr_obj (K := 0) (n := 11) a q0 rfl rfl (fun j hj => hW _ (KBc_0 hj)), ⟨f, bFr_arr a f1 (by decide) rfl (hW _ (by decide)), f2⟩⟩
  · rcases hj with rfl | rfl | rfl | rfl
    · exact hW (6 * 64) (by decide)
    · exact hW (7 * 64) (by decide)
    · exact hW (8 * 64) (by decide)
    · exact hW (14 * 64) (by decide)
  · rcases hj with rfl | rfl | rfl | rfl
    · exact hW (17 * 64) (by decide)
    · exact hW (18 * 64) (by decide)
    · exact hW (19 * 64) (by decide)
    · exact hW (25 * 64) (by decide)
theorem kC_fr {W gg : Nat} {h h' : sHp} {c ck : CF} {ik tf : Int32} (a : bFr W gg h h') (hW : ∀ b ∈ KBc, W.testBit b = false) (h15 : W.testBit (15 * 64) = false) (q : kC h c ck ik tf) : kC h' c ck ik tf :=
  kC_frO a hW (bFr_arr a q.1.2.2.2.2.2.2 (by decide) rfl h15) q
/-- the reference's part but for the owners -/
theorem kM_frO {W gg : Nat} {h h' : sHp} {m : MF} {g ow' : Nat → Int32} (hH' : bH h') (a : bFr W gg h h') (hW : ∀ b ∈ KBm, W.testBit b = false) (h63 : h'[63]? = some (.inl (0, 64, .inl ow'))) (q : kM h m g) : ∃ J', kM h' (J', m.2.1, ow', m.2.2.2) g ∧ (∀ j, j < 7 → J' j = m.1 j) ∧ J' 37 = m.1 37 := by
  obtain ⟨M, g75⟩ := q
  obtain ⟨⟨J', b1, b2, b3⟩, b4⟩ := nkM_fr (J := m.1) (g := g) hH' a (fun b hb => hW b (List.mem_append_left _ hb)) ⟨⟨m.1, M.1, fun _ _ => rfl, rfl⟩, g75⟩
  have mm : ∀ b ∈ [62 * 64, 64 * 64, 65 * 64, 66 * 64], W.testBit b = false := fun b hb => hW b (List.mem_append_right _ hb)
  exact ⟨J', ⟨⟨b1, bFr_arr a M.2.1 (by decide) rfl (mm _ (by decide)), h63, bFr_arr a M.2.2.2.1 (by decide) rfl (mm _ (by decide)), bFr_arr a M.2.2.2.2.1 (by decide) rfl (mm _ (by decide)), bFr_arr a M.2.2.2.2.2 (by decide) rfl (mm _ (by decide))⟩, b4⟩, b2, b3⟩
/-- a relation that says nothing of owners -/
def noOw (Rel : CF → MF → Prop) : Prop := ∀ (c : CF) (m : MF) (o1 : Nat → Int64) (o2 : Nat → Int32), Rel c m → Rel (c.1, c.2.1, c.2.2.1, c.2.2.2.1, c.2.2.2.2.1, c.2.2.2.2.2.1, o1) (m.1, m.2.1, o2, m.2.2.2)
theorem bFL_frO {Rel : CF → MF → Prop} (ok : relOk Rel) (no : noOw Rel) {W gg : Nat} {h h' : sHp} (hH' : bH h') (a : bFr W gg h h') (hc : ∀ b ∈ KBc, W.testBit b = false) (hm : ∀ b ∈ KBm, W.testBit b = false) (q : bFL Rel h) : bFL Rel h' := by
  obtain ⟨c, ck, m, g, ik, tf, kc, km, ej, rl, rk⟩ := q
  obtain ⟨ow, h15⟩ := bA60L hH' (p := 15) (by decide) rfl
  obtain ⟨ow', h63, -, -⟩ := bA60 hH' (p := 63) (by decide) rfl
  obtain ⟨J', km', eJ, e37⟩ := kM_frO hH' a hm h63 km
  exact ⟨_, ck, _, g, ik, tf, kC_frO a hc h15 kc, km', e37.trans ej, ok.1 _ _ _ (no c m ow ow' rl) ⟨eJ, rfl⟩, rk⟩
theorem bFL_fr {Rel : CF → MF → Prop} (ok : relOk Rel) {W gg : Nat} {h h' : sHp} (hH' : bH h') (a : bFr W gg h h') (hc : ∀ b ∈ KBc, W.testBit b = false) (h15 : W.testBit (15 * 64) = false) (hm : ∀ b ∈ KBm, W.testBit b = false) (h63 : W.testBit (63 * 64) = false) (q : bFL Rel h) : bFL Rel h' := by
  obtain ⟨c, ck, m, g, ik, tf, kc, km, ej, rl, rk⟩ := q
  obtain ⟨J', km', eJ, e37⟩ := kM_frO hH' a hm (bFr_arr a km.1.2.2.1 (by decide) rfl h63) km
  exact ⟨c, ck, _, g, ik, tf, kC_fr a hc h15 kc, km', e37.trans ej, ok.1 _ _ _ rl ⟨eJ, rfl⟩, rk⟩
theorem pk_size {Rel : CF → MF → Prop} (ok : relOk Rel) (x : Int32) (y : Int32) : pairR (bFL Rel) 124 204 [.int x, .int y] := pr_mk (c1 := cn_X11_size_0) (c2 := cn_X12_size_0) ch_X11_size_0 ch_X12_size_0 (by decide +kernel) (by decide +kernel) (by decide +kernel) (by decide +kernel) rfl rfl (fun h hH => ⟨bt0 hH, vI0 x, vI0 y, trivial⟩) (fun h hH => ⟨bt60 hH, vI0 x, vI0 y, trivial⟩) (fun h hH hR => by
  obtain ⟨c, ck, m, g, ik, tf, kc, km, ej, rl, rk⟩ := hR
  have F := kc.1
  have q0 := kc.2.2.1
  obtain ⟨Rc, hRc⟩ := RA_of hH (p := 43) (Or.inl rfl)
  obtain ⟨s, sI, sJ, gF, gM⟩ := RN_sg (ok.2.2.2.2.1 _ _ rl)
  refine sDo_mono (s_size11 (d := 10) (by omega) q0 hRc F) (fun r1 h1 q hH1 fr1 => ?_)
  have okE : okSz x y ↔ (2 ≤ x.toInt ∧ x.toInt ≤ 8 ∧ 2 ≤ y.toInt ∧ y.toInt ≤ 8) := Iff.rfl
  rcases q with ⟨k, rfl, F1, E1⟩ | ⟨k, rfl, rfl⟩
  · have km1 := kM_fE km E1
    refine sDo_mono (s_size12 (x := x) (y := y) hH1 km1.1) (fun r2 h2 p hH2 fr2 => ?_)
    rcases p with ⟨-, rfl, M2⟩ | ⟨k2, -⟩
    · have nc := kC_fr fr2 (by decide +kernel) (by decide +kernel) (kC_5 kc F1 E1)
      rw [okE] at k
      obtain ⟨X, hX⟩ : ∃ X : Nat, x.toInt = X := ⟨x.toInt.toNat, by omega⟩
      obtain ⟨Y, hY⟩ : ∃ Y : Nat, y.toInt = Y := ⟨y.toInt.toNat, by omega⟩
      have ex : x = Int32.ofNat X := Int32.toInt_inj.mp (by rw [hX, ofN_toInt (by omega)])
      have ey : y = Int32.ofNat Y := Int32.toInt_inj.mp (by rw [hY, ofN_toInt (by omega)])
      rw [ex, ey] at nc M2
      exact ⟨⟨_, ck, _, g, ik, tf, nc, ⟨M2, M75 fr2 km1.2 (by decide +kernel)⟩, ej, ok.2.1 _ _ s (0, X, Y, 0) rl sI sJ ⟨by omega, by omega, by omega, by omega⟩, rk⟩, _, rfl, rfl⟩
    · exact absurd k k2
  · have km1 := kM_43 (c := rFc (bump Rc 6)) km
    refine sDo_mono (s_size12 (x := x) (y := y) hH1 km1.1) (fun r2 h2 p hH2 fr2 => ?_)
    rcases p with ⟨k2, -⟩ | ⟨-, rfl, M2⟩
    · exact absurd k2 k
    · exact ⟨⟨c, ck, m, g, ik, tf, kC_fr fr2 (by decide +kernel) (by decide +kernel) (kC_43 kc), ⟨M2, M75 fr2 km1.2 (by decide +kernel)⟩, ej, rl, rk⟩, _, rfl, rfl⟩)
theorem pk_place {Rel : CF → MF → Prop} (ok : relOk Rel) (x : Int32) (v : Int32) : pairR (bFL Rel) 126 206 [.int x, .int v] := pr_mk (c1 := cn_X11_place_0) (c2 := cn_X12_place_0) ch_X11_place_0 ch_X12_place_0 (by decide +kernel) (by decide +kernel) (by decide +kernel) (by decide +kernel) rfl rfl (fun h hH => ⟨bt0 hH, vI0 x, vI0 v, trivial⟩) (fun h hH => ⟨bt60 hH, vI0 x, vI0 v, trivial⟩) (fun h hH hR => by
  obtain ⟨c, ck, m, g, ik, tf, kc, km, ej, rl, rk⟩ := hR
  have F := kc.1
  have q0 := kc.2.2.1
  obtain ⟨Rc, hRc⟩ := RA_of hH (p := 43) (Or.inl rfl)
  obtain ⟨s, sI, sJ, gF, gM⟩ := RN_sg (ok.2.2.2.2.1 _ _ rl)
  refine sDo_mono (s_place11 (d := 10) (x := x) (v := v) (by omega) q0 hRc F gF) (fun r1 h1 q hH1 fr1 => ?_)
  obtain ⟨Rm, hRm⟩ := RA_of hH1 (p := 61) (Or.inr rfl)
  rcases q with ⟨K, hK, hx, k, rfl, rfl⟩ | ⟨k, rfl, rfl⟩
  · have F1 := FC_0 (I := upd c.1 (7 + K) v) (G := c.2.1) F
    have E1 : fE 5 h (h.set 5 (fO 5 (upd c.1 (7 + K) v) c.2.1)) := fE_set fE_rfl (by omega) (by omega)
    have km1 := kM_fE km E1
    refine sDo_mono (s_place12 (d := 10) (x := x) (v := v) (by omega) km1.1 hRm gM) (fun r2 h2 p hH2 fr2 => ?_)
    rcases p with ⟨K2, hK2, hx2, -, rfl, rfl⟩ | ⟨k2, -⟩
    · have eK : K2 = K := by omega
      subst eK
      have nc := kC_mE (kC_5 kc F1 E1) (mE_set (q := 60) (x := mO (upd m.1 (2 + K2) v)) mE_rfl (by decide))
      have M2 := MC_0 (f := upd m.1 (2 + K2) v) km1.1
      have g2 : (List.set (List.set h 5 (fO 5 (upd c.1 (7 + K2) v) c.2.1)) 60 (mO (upd m.1 (2 + K2) v)))[75]? = some (.inl (0, 180, .inl g)) := by rw [s_set_ne (by decide)]; exact km1.2
      rw [hx2] at k
      have rl2 := ok.2.2.2.2.2 _ _ s K2 v rl sI hK k
      obtain ⟨W', H', N', -, -, -, -, -, -, mk⟩ := ok.2.2.2.2.1 _ _ rl
      have ev : c.1 (7 + K2) = m.1 (2 + K2) := mk K2 hK
      refine ⟨⟨_, ck, _, g, ik, tf, nc, ⟨M2, g2⟩, (u_ne (by omega)).trans ej, rl2, rk⟩, _, rfl, ?_⟩
      exact congrArg (fun z => some (Value.int z)) ev.symm
    · exact absurd k k2
  · refine sDo_mono (s_place12 (d := 10) (x := x) (v := v) (by omega) (kM_43 km).1 hRm gM) (fun r2 h2 p hH2 fr2 => ?_)
    rcases p with ⟨-, -, -, k2, -⟩ | ⟨-, rfl, rfl⟩
    · exact absurd k2 k
    · exact ⟨⟨c, ck, m, g, ik, tf, kC_61 (kC_43 kc), kM_61 (kM_43 km), ej, rl, rk⟩, _, rfl, rfl⟩)
theorem pk_heir {Rel : CF → MF → Prop} (ok : relOk Rel) (x : Int32) : pairR (bFL Rel) 127 207 [.int x] := pr_mk (c1 := cn_X11_heir_0) (c2 := cn_X12_heir_0) ch_X11_heir_0 ch_X12_heir_0 (by decide +kernel) (by decide +kernel) (by decide +kernel) (by decide +kernel) rfl rfl (fun h hH => ⟨bt0 hH, vI0 x, trivial⟩) (fun h hH => ⟨bt60 hH, vI0 x, trivial⟩) (fun h hH hR => by
  obtain ⟨c, ck, m, g, ik, tf, kc, km, ej, rl, rk⟩ := hR
  have F := kc.1
  have q0 := kc.2.2.1
  obtain ⟨Rc, hRc⟩ := RA_of hH (p := 43) (Or.inl rfl)
  obtain ⟨s, sI, sJ, gF, gM⟩ := RN_sg (ok.2.2.2.2.1 _ _ rl)
  refine sDo_mono (s_heir11 (d := 10) (x := x) (N := s.2.2) (by omega) q0 hRc F sI.2.2.1 sI.2.2.2.2.2.2.2) (fun r1 h1 q hH1 fr1 => ?_)
  obtain ⟨Rm, hRm⟩ := RA_of hH1 (p := 61) (Or.inr rfl)
  rcases q with ⟨k, k1, rfl, F1, E1⟩ | ⟨k, k1, rfl, rfl⟩ | ⟨k, rfl, rfl⟩
  · have km1 := kM_fE km E1
    refine sDo_mono (s_heir12 (d := 10) (x := x) (N := s.2.2) (by omega) km1.1 hRm sJ.2.2.1 sJ.2.2.2.2.2.2.2) (fun r2 h2 p hH2 fr2 => ?_)
    rcases p with ⟨-, -, rfl, M2, E2⟩ | ⟨-, k2, -⟩ | ⟨k2, -⟩
    · obtain ⟨X, hX⟩ : ∃ X : Nat, x.toInt = X := ⟨x.toInt.toNat, by omega⟩
      have ex : x = Int32.ofNat X := Int32.toInt_inj.mp (by rw [hX, ofN_toInt (by omega)])
      have eN := ofN_toInt (n := s.2.2) (by omega)
      have e1 : (c.1 11).toNatClampNeg = s.2.2 := by rw [sI.2.2.1]; exact i_nat eN
      have e2 : (m.1 6).toNatClampNeg = s.2.2 := by rw [sJ.2.2.1]; exact i_nat eN
      have rl2 : Rel (cfHeir (c.1 11).toNatClampNeg (Int32.ofNat X) c) (mfHeir (m.1 6).toNatClampNeg (Int32.ofNat X) m) := ok.2.1 _ _ s (3, X, 0, 0) rl sI sJ ⟨by omega, by omega, k1⟩
      rw [e1, e2, ← ex] at rl2
      exact ⟨⟨_, ck, _, g, ik, tf, kC_mE (kC_5 kc F1 E1) E2, ⟨M2, (E2.2 75 (by decide) (by decide)).trans km1.2⟩, ej, rl2, rk⟩, _, rfl, rfl⟩
    · omega
    · exact absurd k k2
  · refine sDo_mono (s_heir12 (d := 10) (x := x) (N := s.2.2) (by omega) (kM_43 km).1 hRm sJ.2.2.1 sJ.2.2.2.2.2.2.2) (fun r2 h2 p hH2 fr2 => ?_)
    rcases p with ⟨-, k2, -⟩ | ⟨-, -, rfl, rfl⟩ | ⟨k2, -⟩
    · omega
    · exact ⟨⟨c, ck, m, g, ik, tf, kC_61 (kC_43 kc), kM_61 (kM_43 km), ej, rl, rk⟩, _, rfl, rfl⟩
    · exact absurd k k2
  · refine sDo_mono (s_heir12 (d := 10) (x := x) (N := s.2.2) (by omega) (kM_43 km).1 hRm sJ.2.2.1 sJ.2.2.2.2.2.2.2) (fun r2 h2 p hH2 fr2 => ?_)
    rcases p with ⟨k2, -⟩ | ⟨k2, -⟩ | ⟨-, rfl, rfl⟩
    · exact absurd k2 k
    · exact absurd k2 k
    · exact ⟨⟨c, ck, m, g, ik, tf, kC_61 (kC_43 kc), kM_61 (kM_43 km), ej, rl, rk⟩, _, rfl, rfl⟩)
theorem pk_image {Rel : CF → MF → Prop} (ok : relOk Rel) : pairR (bFL Rel) 154 254 [] := pr_mk (c1 := cn_X11_image_0) (c2 := cn_X12_image_0) ch_X11_image_0 ch_X12_image_0 (by decide +kernel) (by decide +kernel) (by decide +kernel) (by decide +kernel) rfl rfl (fun h hH => ⟨bt0 hH, trivial⟩) (fun h hH => ⟨bt60 hH, trivial⟩) (fun h hH hR => by
  obtain ⟨c, ck, m, g, ik, tf, kc, km, ej, rl, rk⟩ := hR
  have F := kc.1
  have q0 := kc.2.2.1
  obtain ⟨Rc, hRc⟩ := RA_of hH (p := 43) (Or.inl rfl)
  obtain ⟨s, sI, sJ, gF, gM⟩ := RN_sg (ok.2.2.2.2.1 _ _ rl)
  refine sDo_mono (s_image11 (d := 10) (by omega) q0 F kc.2.1 (fb_of hH F (Or.inl rfl))) (fun r1 h1 q hH1 fr1 => ?_)
  obtain ⟨rfl, F1, Fk1, z0, -, zq⟩ := q
  have km1 := kM_tr km (fun q x h1 _ hx => (zq q (by omega)).trans hx)
  refine sDo_mono (s_image12 km1.1 km1.2) (fun r2 h2 p hH2 fr2 => ?_)
  obtain ⟨rfl, M2, g2⟩ := p
  have nc : kC h1 c (cfBecome c ck) 1 tf := ⟨F1, Fk1, z0, fx_tr kc.2.2.2 (fun q x h1 h2 hx => (zq q (by omega)).trans hx)⟩
  have nc2 := kC_fr fr2 (by decide +kernel) (by decide +kernel) nc
  obtain ⟨W', H', N', -, -, c11, -, -, m6, -⟩ := ok.2.2.2.2.1 _ _ rl
  refine ⟨⟨c, _, _, _, 1, tf, nc2, ⟨M2, g2⟩, rfl, ok.1 _ m (upd m.1 37 (Int32.ofInt 1), m.2) rl ⟨fun j hj => u_ne (by omega), rfl⟩, fun _ m' => ok.2.2.2.1 _ m m' g (ok.2.2.1 c ck m rl)⟩, _, rfl, ?_⟩
  exact congrArg (fun z => some (Value.int z)) (m6.trans c11.symm))
theorem pk_restore {Rel : CF → MF → Prop} (ok : relOk Rel) : pairR (bFL Rel) 155 255 [] := pr_mk (c1 := cn_X11_restore_0) (c2 := cn_X12_restore_0) ch_X11_restore_0 ch_X12_restore_0 (by decide +kernel) (by decide +kernel) (by decide +kernel) (by decide +kernel) rfl rfl (fun h hH => ⟨bt0 hH, trivial⟩) (fun h hH => ⟨bt60 hH, trivial⟩) (fun h hH hR => by
  obtain ⟨c, ck, m, g, ik, tf, kc, km, ej, rl, rk⟩ := hR
  have F := kc.1
  have q0 := kc.2.2.1
  obtain ⟨Rc, hRc⟩ := RA_of hH (p := 43) (Or.inl rfl)
  obtain ⟨s, sI, sJ, gF, gM⟩ := RN_sg (ok.2.2.2.2.1 _ _ rl)
  refine sDo_mono (s_restore11 (d := 10) (by omega) q0 hRc F kc.2.1 (fb_of hH kc.2.1 (Or.inr rfl))) (fun r1 h1 q hH1 fr1 => ?_)
  rcases q with ⟨k, rfl, F1, E1⟩ | ⟨k, rfl, rfl⟩
  · have km1 := kM_fE km E1
    refine sDo_mono (s_restore12 hH1 km1.1 km1.2) (fun r2 h2 p hH2 fr2 => ?_)
    rcases p with ⟨k2, -⟩ | ⟨-, rfl, M2, g2⟩
    · exact absurd (ej.symm.trans k2) k
    · have nc := kC_fr fr2 (by decide +kernel) (by decide +kernel) (kC_5 kc F1 E1)
      have rl2 := ok.2.2.1 ck c _ (rk k m)
      obtain ⟨W', H', N', -, -, c11, -, -, m6, -⟩ := ok.2.2.2.2.1 _ _ (rk k m)
      refine ⟨⟨_, ck, _, g, ik, tf, nc, ⟨M2, g2⟩, ej, rl2, rk⟩, _, rfl, ?_⟩
      exact congrArg (fun z => some (Value.int z)) (show g 174 = ck.1 11 from m6.trans c11.symm)
  · have km1 := kM_43 (c := rFc (bump Rc 6)) km
    refine sDo_mono (s_restore12 hH1 km1.1 km1.2) (fun r2 h2 p hH2 fr2 => ?_)
    rcases p with ⟨-, rfl, M2, g2⟩ | ⟨k2, -⟩
    · exact ⟨⟨c, ck, m, g, ik, tf, kC_fr fr2 (by decide +kernel) (by decide +kernel) (kC_43 kc), ⟨M2, g2⟩, ej, rl, rk⟩, _, rfl, rfl⟩
    · exact absurd (ej.trans k) k2)
end
section
theorem pk_field {Rel : CF → MF → Prop} (ok : relOk Rel) (x : Int32) : pairR (fun h => bR5 h ∧ bFL Rel h) 122 202 [.int x] := pr_mk (c1 := cn_X11_field_0) (c2 := cn_X12_field_0) ch_X11_field_0 ch_X12_field_0 (by decide +kernel) (by decide +kernel) (by decide +kernel) (by decide +kernel) rfl rfl (fun h hH => ⟨bt0 hH, vI0 x, trivial⟩) (fun h hH => ⟨bt60 hH, vI0 x, trivial⟩) (fun h hH hRR => by
  obtain ⟨hR5, hR⟩ := hRR
  obtain ⟨c, ck, m, g, ik, tf, kc, km, ej, rl, rk⟩ := hR
  have F := kc.1
  have q0 := kc.2.2.1
  obtain ⟨Rc, hRc⟩ := RA_of hH (p := 43) (Or.inl rfl)
  obtain ⟨s, sI, sJ, gF, gM⟩ := RN_sg (ok.2.2.2.2.1 _ _ rl)
  obtain ⟨cd, Fd, -⟩ := FC_at27 hH kc.2.2.2
  have fb := fb_of hH F (Or.inl rfl)
  obtain ⟨hd, ro, sz, co, cl, f, gg, q4, bs⟩ := id hR5
  have q4' := q4
  obtain ⟨a1, a2, a3, a4, a5, a6, a7, a8⟩ := q4'
  have l79 := hH.1
  -- refused on both sides
  have refd : ∀ (b : Int32) (B : Nat), b.toInt = -(B : Int) → (1 ≤ B ∧ B ≤ 7) → sDo 9 161 [.ref 0, .int x] h (fun r h' => h' = h ∧ r = some (.int b)) → (((0 ≤ x.toInt ∧ x.toInt < 8) ∧ wtS hd x.toInt.toNat 1 = b) ∨ (¬ (0 ≤ x.toInt ∧ x.toInt < 8) ∧ b = -1)) → sDo 10 cn_X11_field_0.1 (.ref 0 :: [.int x]) h (fun r1 h1 => bH h1 → bFr cn_X11_field_0.2.2.2.2.1 cn_X11_field_0.2.2.2.2.2.1 h h1 → sDo 10 cn_X12_field_0.1 (.ref 60 :: [.int x]) h1 (fun r2 h2 => bH h2 → bFr cn_X12_field_0.2.2.2.2.1 cn_X12_field_0.2.2.2.2.2.1 h1 h2 → (bR5 h2 ∧ bFL Rel h2) ∧ ∃ x, r1 = some x ∧ r2 = some x)) := by
    intro b B hb hB hno hx
    refine sDo_mono (s_field11n (d := 10) (by omega) q0 hRc hb hB hno) (fun r1 h1 q hH1 fr1 => ?_)
    obtain ⟨rfl, rfl⟩ := q
    obtain ⟨Rm, hRm⟩ := RA_of hH1 (p := 61) (Or.inr rfl)
    refine sDo_mono (s_field12n (d := 10) (by omega) (kM_43 km).1.1 hRm (by rw [s_set_ne (by decide)]; exact a4) hb hB hx) (fun r2 h2 p hH2 fr2 => ?_)
    obtain ⟨rfl, rfl⟩ := p
    exact ⟨⟨bR5_fr fr2 (by decide +kernel) (bR5_43 hR5), c, ck, m, g, ik, tf, kC_61 (kC_43 kc), kM_61 (kM_43 km), ej, rl, rk⟩, _, rfl, rfl⟩
  by_cases hS : 0 ≤ x.toInt ∧ x.toInt < 8
  · obtain ⟨S, hx⟩ : ∃ S : Nat, x.toInt = S := ⟨x.toInt.toNat, by omega⟩
    obtain ⟨ot, z, el, b1, b2, b3⟩ := bs S (by omega)
    have hno := s_noIn (d := 7) (el := el) hH q4 hx (by omega) b1 b3
    have row : hd S = 1 ∨ (hd S = 0 ∨ hd S = 2) := by
      rcases b3 with ⟨e, -⟩ | ⟨e, -⟩ | ⟨e, -⟩
      · exact Or.inr (Or.inl e)
      · exact Or.inl e
      · exact Or.inr (Or.inr e)
    rcases row with h1 | h1
    · -- a row
      rcases b3 with ⟨e, -⟩ | ⟨-, -, eo, o0, o3, ez, z0, z100, eel⟩ | ⟨e, -⟩
      · rw [h1] at e; exact absurd e (by decide)
      · obtain ⟨n, hn⟩ : ∃ n : Nat, z.toInt = n := ⟨z.toInt.toNat, by omega⟩
        have hz : z = Int32.ofNat n := Int32.toInt_inj.mp (by rw [hn, ofN_toInt (by omega)])
        have hno0 : sDo 9 161 [.ref 0, .int x] h (fun r h' => h' = h ∧ r = some (.int 0)) := sDo_mono hno (fun r h' q => ⟨q.1, by rw [q.2]; unfold nrOf; rw [if_pos h1]⟩)
        have sI2 : sgI (cfBecome c cd) s := ⟨(bc_I c.1 cd.1 0 (by decide)).trans sI.1, (bc_I c.1 cd.1 1 (by decide)).trans sI.2.1, (bc_I c.1 cd.1 11 (by decide)).trans sI.2.2.1, sI.2.2.2⟩
        have RT1 : RT cl S n (tx el n) := ⟨by omega, by omega, fun i hi => by
            unfold tx
            rw [if_pos hi, eel i (by omega)], fun i hi => if_neg (by omega)⟩
        rw [hz] at b1
        refine sDo_mono (s_field11 (d := 10) (S := S) (n := n) (by omega) l79 q0 hRc F Fd fb (fun as => fb_dos (fb_bc (a := c) fb) as) (by omega) (by omega) hx a1 (a2 S (by omega)) b1 b2 sI2 hno0) (fun r1 h1' q hH1 fr1 => ?_)
        have hE : ∃ lo, (lo = 5 ∨ lo = 16) ∧ fdE h h1' lo := by
          unfold qF11 at q
          split at q
          · exact ⟨5, Or.inl rfl, q.2.2.2⟩
          · exact ⟨16, Or.inr rfl, q.2.2⟩
        obtain ⟨lo, hlo, E⟩ := hE
        have at_ : ∀ {p : Nat} {x : va_E}, h[p]? = some x → 43 < p → h1'[p]? = some x := fun hx hp => fdE_at E hx (by omega) (by omega) (by omega) (by omega)
        have km1 : kM h1' m g := kM_tr km (fun q x h1 _ hx => at_ hx (by omega))
        have M := km1.1
        obtain ⟨Rm, hRm⟩ := RA_of hH1 (p := 61) (Or.inr rfl)
        obtain ⟨gw, hgw, -, -⟩ := bA60 hH1 (p := 74) (by decide) rfl
        obtain ⟨wd, w0, WW⟩ := WD_of hH1
        have x27' := fxR_fr fr1 (Or.inr (Or.inr rfl)) (by decide +kernel) kc.2.2.2
        refine sDo_mono (s_field12 (d := 10) (S := S) (n := n) (by omega) M hRm hgw w0 WW (at_ a4 (by decide)) (at_ a6 (by decide)) (at_ a8 (by decide)) (by omega) hx h1 (by rw [← ez, hz]) RT1 sJ) (fun r2 h2 p hH2 fr2 => ?_)
        have R2 := bR5_fr fr2 (by decide +kernel) (bR5_fr fr1 (by decide +kernel) hR5)
        cases hi : itsS (tx el n) n 101 s 0 with
        | none =>
          rw [hi] at q p
          obtain ⟨rfl, ⟨tf2, z0'⟩, E1⟩ := q
          obtain ⟨rfl, ⟨m0, g0, m2, M2, mq⟩, E2⟩ := p
          have nc : kC h1' c ck ik tf2 := ⟨FC_tr F (fun q x h1 h2 hx => fdE_at E1 hx (by omega) (by omega) (by omega) (by omega)), FC_tr kc.2.1 (fun q x h1 h2 hx => fdE_at E1 hx (by omega) (by omega) (by omega) (by omega)), z0', x27'⟩
          have rl2 : Rel c m2 := ok.1 _ _ _ (ok.2.2.2.1 _ _ m0 g0 rl) mq
          exact ⟨⟨R2, c, ck, m2, g, ik, tf2, kC_fr fr2 (by decide +kernel) (by decide +kernel) nc, ⟨M2, (E2.2 75 (by decide) (by decide) (by decide)).trans km1.2⟩, (iso37 fr2 M.1 M2.1 (by decide +kernel)).trans ej, rl2, rk⟩, _, rfl, rfl⟩
        | some kb =>
          obtain ⟨k, as⟩ := kb
          rw [hi] at q p
          obtain ⟨rfl, F1, z0', E1⟩ := q
          obtain ⟨rfl, ⟨m2, M2, mq⟩, E2⟩ := p
          have okA := (its_ok hi sI2).1
          have rl1 : Rel (cfBecome c cd) m := ok.2.2.1 _ _ _ rl
          have rl2 := ok.2.2.1 _ c _ (rel_dos ok rl1 sI2 sJ okA)
          have rl3 := ok.1 _ _ _ rl2 mq
          have nc : kC h1' (cfBecome (as.foldl cfDo (cfBecome c cd)) c) ck ik (-1) := ⟨F1, FC_tr kc.2.1 (fun q x h1 h2 hx => fdE_at E1 hx (by omega) (by omega) (by omega) (by omega)), z0', x27'⟩
          exact ⟨⟨R2, _, ck, m2, g, ik, -1, kC_fr fr2 (by decide +kernel) (by decide +kernel) nc, ⟨M2, (E2.2 75 (by decide) (by decide) (by decide)).trans km1.2⟩, (iso37 fr2 M.1 M2.1 (by decide +kernel)).trans ej, rl3, rk⟩, _, rfl, rfl⟩
      · rw [h1] at e; exact absurd e (by decide)
    · obtain ⟨B, hB, eB, ew⟩ := nr_b h1
      exact refd _ B eB hB hno (Or.inl ⟨hS, by rw [show x.toInt.toNat = S by omega]; exact ew⟩)
  · exact refd (-1) 1 (by decide) (by decide) (s_noOut (d := 7) hS) (Or.inr ⟨hS, rfl⟩))
end
section
/-! ===== soils, shares, worths, FOND alike ===== -/
def RSs (s : Sg) (c : CF) (m : MF) : Prop := (∀ v, v < 6 → c.2.2.1 v = stO (fun q => decide (m.2.1 q = Int32.ofNat v)) (s.1 * s.2.1)) ∧ (∀ q, q < s.1 * s.2.1 → ∃ v, v < 6 ∧ m.2.1 q = Int32.ofNat v) ∧ (∀ k, k < s.2.2 → c.2.2.2.1 k = m.2.2.2.1 k ∧ c.2.2.2.2.2.1 k = m.2.2.2.2.1 k) ∧ (∀ k, k < s.2.2 → ∀ v, v < 6 → c.2.2.2.2.1 k v = m.2.2.2.2.2 (6 * k + v)) ∧ ∀ k, k < s.2.2 → (∃ n, 1 ≤ n ∧ n ≤ 9 ∧ m.2.2.2.1 k = Int32.ofNat n) ∧ (m.2.2.2.2.1 k = 0 ∨ m.2.2.2.2.1 k = 1) ∧ ∀ v, v < 6 → ∃ n, n < 100 ∧ m.2.2.2.2.2 (6 * k + v) = Int32.ofNat n
/-- the places may stand -/
def RPs (s : Sg) (J : Nat → Int32) : Prop := ∀ k : Nat, k ≤ 3 → okPl (s.1 * s.2.1) (k : Int) (J (2 + k)).toInt
def RB (c : CF) (m : MF) : Prop := RN c m ∧ ∀ s : Sg, sgI c s → RSs s c m ∧ RPs s m.1
theorem ofN_inj {a b : Nat} (ha : a < 1000) (hb : b < 1000) (h : Int32.ofNat a = Int32.ofNat b) : a = b := by
  have h2 := congrArg Int32.toInt h
  rw [ofN_toInt (by omega), ofN_toInt (by omega)] at h2
  omega
theorem sgI_inj {c : CF} {s s' : Sg} (a : sgI c s) (b : sgI c s') : s = s' := by
  obtain ⟨x, y, z⟩ := s
  obtain ⟨x', y', z'⟩ := s'
  obtain ⟨a1, a2, a3, a4, a5, a6, a7, a8⟩ := a
  obtain ⟨b1, b2, b3, b4, b5, b6, b7, b8⟩ := b
  have a5 : x ≤ 8 := a5
  have a7 : y ≤ 8 := a7
  have a8 : z ≤ 5 := a8
  have b5 : x' ≤ 8 := b5
  have b7 : y' ≤ 8 := b7
  have b8 : z' ≤ 5 := b8
  have e1 : x = x' := ofN_inj (show x < 1000 by omega) (show x' < 1000 by omega) (a1.symm.trans b1)
  have e2 : y = y' := ofN_inj (show y < 1000 by omega) (show y' < 1000 by omega) (a2.symm.trans b2)
  have e3 : z = z' := ofN_inj (show z < 1000 by omega) (show z' < 1000 by omega) (a3.symm.trans b3)
  rw [e1, e2, e3]
theorem RB_s {c : CF} {m : MF} {s : Sg} (r : RB c m) (q : sgI c s) : RSs s c m := (r.2 s q).1
theorem RB_mk {c : CF} {m : MF} {s : Sg} (a : RN c m) (q : sgI c s) (b : RSs s c m) (b2 : RPs s m.1) : RB c m := ⟨a, fun s' q' => by rw [← sgI_inj q q']; exact ⟨b, b2⟩⟩
theorem RPs_J {s : Sg} {J J' : Nat → Int32} (r : RPs s J) (e : ∀ j, j < 7 → J' j = J j) : RPs s J' := fun k hk => by rw [e (2 + k) (by omega)]; exact r k hk
theorem okPl_n {n n' : Nat} {k : Nat} {v : Int} (h : okPl n k v) (hk : k = 0 ∨ k = 3) : okPl n' k v := by
  unfold okPl at h ⊢
  omega
theorem RSs_c {s : Sg} {c c' : CF} {m m' : MF} (r : RSs s c m) (e : c'.2.2 = c.2.2) (e' : m'.2 = m.2) : RSs s c' m' := by
  obtain ⟨I, G, R⟩ := c
  obtain ⟨I', G', R'⟩ := c'
  obtain ⟨J, T⟩ := m
  obtain ⟨J', T'⟩ := m'
  have e : R' = R := e
  have e' : T' = T := e'
  subst e e'
  exact r
theorem RN_sgI {c : CF} {m : MF} (r : RN c m) : ∃ s : Sg, sgI c s ∧ sgJ m.1 s := by
  obtain ⟨s, a, b, -⟩ := RN_sg r
  exact ⟨s, a, b⟩
theorem stO_ext {P Q : Nat → Bool} {n : Nat} (hn : n ≤ 64) (h : ∀ q, q < n → P q = Q q) : stO P n = stO Q n := bt_ext (fun i hi => by
  rw [bt_stO _ _ hn, bt_stO _ _ hn]
  by_cases z : i < n
  · rw [h i z]
  · rw [decide_eq_false z, Bool.false_and, Bool.false_and])
theorem stO_no {P : Nat → Bool} {n : Nat} (hn : n ≤ 64) (h : ∀ q, q < n → P q = false) : stO P n = Int64.ofNat 0 := bt_ext (fun i hi => by
  rw [bt_stO _ _ hn, bt_0]
  by_cases z : i < n
  · rw [h i z, Bool.and_false]
  · rw [decide_eq_false z, Bool.false_and])
theorem svF_so (m : MF) (g : Nat → Int32) {q : Nat} (hq : q < 64) : svF m g q = m.2.1 q := by
  unfold svF
  rw [gS7_ne (by omega), gS_A hq]
theorem svF_sh (m : MF) (g : Nat → Int32) {q : Nat} (hq : q < 5) : svF m g (128 + q) = m.2.2.2.1 q := by
  unfold svF
  rw [gS7_ne (by omega), gS_C hq]
theorem svF_fo (m : MF) (g : Nat → Int32) {q : Nat} (hq : q < 5) : svF m g (133 + q) = m.2.2.2.2.1 q := by
  unfold svF
  rw [gS7_ne (by omega)]
  unfold gS ks
  rw [if_neg (by omega), if_pos (by omega)]
  exact congrArg _ (by omega)
theorem svF_va (m : MF) (g : Nat → Int32) {q : Nat} (hq : q < 30) : svF m g (138 + q) = m.2.2.2.2.2 q := by
  unfold svF
  rw [gS7_ne (by omega)]
  unfold gS ks
  rw [if_pos (by omega)]
  exact congrArg _ (by omega)
theorem RSs_back {s : Sg} {c : CF} {m : MF} (h1 : s.1 * s.2.1 ≤ 64) (hN : s.2.2 ≤ 5) (r : RSs s c m) (m' : MF) (g : Nat → Int32) : RSs s c (mfBack m' (svF m g)) := by
  obtain ⟨r1, r2, r3, r4, r5⟩ := r
  have eH : ∀ k, k < 5 → (mfBack m' (svF m g)).2.2.2.1 k = m.2.2.2.1 k := fun k hk => by
    show kb m'.2.2.2.1 (svF m g) 128 5 k = _
    unfold kb
    rw [if_pos (by omega), svF_sh m g (by omega)]
  have eF : ∀ k, k < 5 → (mfBack m' (svF m g)).2.2.2.2.1 k = m.2.2.2.2.1 k := fun k hk => by
    show kb m'.2.2.2.2.1 (svF m g) 133 5 k = _
    unfold kb
    rw [if_pos (by omega), svF_fo m g (by omega)]
  have eV : ∀ j, j < 30 → (mfBack m' (svF m g)).2.2.2.2.2 j = m.2.2.2.2.2 j := fun j hj => by
    show kb m'.2.2.2.2.2 (svF m g) 138 30 j = _
    unfold kb
    rw [if_pos (by omega), svF_va m g (by omega)]
  have eS : ∀ q, q < 64 → (mfBack m' (svF m g)).2.1 q = m.2.1 q := fun q hq => by
    show kb m'.2.1 (svF m g) 0 64 q = _
    unfold kb
    rw [if_pos hq, Nat.zero_add, svF_so m g hq]
  refine ⟨fun v hv => (r1 v hv).trans (stO_ext h1 (fun q hq => by rw [eS q (by omega)])), fun q hq => by rw [eS q (by omega)]; exact r2 q hq, fun k hk => ?_, fun k hk v hv => ?_, fun k hk => ⟨?_, ?_, fun v hv => ?_⟩⟩
  · rw [eH k (by omega), eF k (by omega)]; exact r3 k hk
  · rw [eV (6 * k + v) (by omega)]; exact r4 k hk v hv
  · rw [eH k (by omega)]; exact (r5 k hk).1
  · rw [eF k (by omega)]; exact (r5 k hk).2.1
  · rw [eV (6 * k + v) (by omega)]; exact (r5 k hk).2.2 v hv
theorem RSs_bec {s : Sg} {a b : CF} {m : MF} (hN : s.2.2 ≤ 5) (r : RSs s a m) : RSs s (cfBecome a b) m := by
  obtain ⟨r1, r2, r3, r4, r5⟩ := r
  refine ⟨fun v hv => ?_, r2, fun k hk => ?_, fun k hk v hv => ?_, r5⟩
  · exact (show cpL a.2.2.1 b.2.2.1 6 v = a.2.2.1 v from if_pos hv).trans (r1 v hv)
  · exact ⟨(show cpI a.2.2.2.1 b.2.2.2.1 5 k = a.2.2.2.1 k from if_pos (by omega)).trans (r3 k hk).1, (show cpI a.2.2.2.2.2.1 b.2.2.2.2.2.1 5 k = a.2.2.2.2.2.1 k from if_pos (by omega)).trans (r3 k hk).2⟩
  · refine (show bcW a.2.2.2.2.1 b.2.2.2.2.1 5 k v = a.2.2.2.2.1 k v from ?_).trans (r4 k hk v hv)
    unfold bcW
    rw [if_pos (show k < 5 by omega)]
    exact if_pos hv
/-- a set goes over to one soil -/
theorem RSs_lay {s : Sg} {c : CF} {m : MF} {v : Nat} {set : Int64} {P : Nat → Bool} {so' : Nat → Int32} (h1 : s.1 * s.2.1 ≤ 64) (hv : v < 6) (hs : set = stO P (s.1 * s.2.1)) (e : ∀ q, q < s.1 * s.2.1 → so' q = if P q = true then Int32.ofNat v else m.2.1 q) (r : RSs s c m) : RSs s (c.1, c.2.1, giveS c.2.2.1 6 set v, c.2.2.2) (m.1, so', m.2.2) := by
  obtain ⟨r1, r2, r3, r4, r5⟩ := r
  refine ⟨fun u hu => ?_, fun q hq => ?_, r3, r4, r5⟩
  · show giveS c.2.2.1 6 set v u = stO (fun q => decide (so' q = Int32.ofNat u)) (s.1 * s.2.1)
    have gu : ∀ u, u < 6 → gvF c.2.2.1 set 6 u = c.2.2.1 u &&& (set ^^^ lM1) := fun u hu => if_pos hu
    refine bt_ext (fun i hi => ?_)
    rw [bt_stO _ _ h1]
    by_cases z : i < s.1 * s.2.1
    · rw [decide_eq_true z, Bool.true_and, e i z]
      have k1 : bt (c.2.2.1 u) i = decide (m.2.1 i = Int32.ofNat u) := by rw [r1 u hu, bt_stO _ _ h1, decide_eq_true z, Bool.true_and]
      have k2 : bt set i = P i := by rw [hs, bt_stO _ _ h1, decide_eq_true z, Bool.true_and]
      by_cases w : u = v
      · subst w
        rw [show giveS c.2.2.1 6 set u u = gvF c.2.2.1 set 6 u ||| set from if_pos rfl, gu u hu, bt_or, bt_and, bt_not, k1, k2, decide_eq_true hi, Bool.true_and]
        cases hp : P i
        · rw [if_neg (by decide), Bool.not_false, Bool.and_true, Bool.or_false]
        · rw [if_pos rfl, Bool.or_true, decide_eq_true rfl]
      · rw [show giveS c.2.2.1 6 set v u = gvF c.2.2.1 set 6 u from if_neg w, gu u hu, bt_and, bt_not, k1, k2, decide_eq_true hi, Bool.true_and]
        cases hp : P i
        · rw [if_neg (by decide), Bool.not_false, Bool.and_true]
        · rw [if_pos rfl, Bool.not_true, Bool.and_false]
          exact (decide_eq_false (fun y => w (ofN_inj (by omega) (by omega) y).symm)).symm
    · rw [decide_eq_false z, Bool.false_and]
      have k1 : bt (c.2.2.1 u) i = false := by rw [r1 u hu, bt_stO _ _ h1, decide_eq_false z, Bool.false_and]
      have k2 : bt set i = false := by rw [hs, bt_stO _ _ h1, decide_eq_false z, Bool.false_and]
      by_cases w : u = v
      · subst w
        rw [show giveS c.2.2.1 6 set u u = gvF c.2.2.1 set 6 u ||| set from if_pos rfl, gu u hu, bt_or, bt_and, k1, k2]
        rfl
      · rw [show giveS c.2.2.1 6 set v u = gvF c.2.2.1 set 6 u from if_neg w, gu u hu, bt_and, k1]
        rfl
  · show ∃ v, v < 6 ∧ so' q = Int32.ofNat v
    rw [e q hq]
    cases hp : P q
    · rw [if_neg (by decide)]; exact r2 q hq
    · rw [if_pos rfl]; exact ⟨v, hv, rfl⟩
theorem bt_low2 {n i : Nat} (hn : n < 1000) (hi : i < 64) : bt (lowS (Int32.ofNat n)) i = decide (i < n) := by
  rw [bt_low hi, ofN_toInt (by omega)]
  exact decide_eq_decide.mpr (by omega)
theorem RSs_do {s : Sg} {c : CF} {m : MF} {a : Act} (g : gdF c s.1 s.2.1) (q : sgI c s) (p : sgJ m.1 s) (k : actOk s a) (r : RSs s c m) : RSs (sgDo s a) (cfDo c a) (mfDo m a) := by
  have hn := gdF_n g
  obtain ⟨i, x, y, z⟩ := a
  match i, k with
  | 0, k =>
    obtain ⟨r1, r2, r3, r4, r5⟩ := r
    have k : 2 ≤ x ∧ x ≤ 8 ∧ 2 ≤ y ∧ y ≤ 8 := k
    have g2 := (gdF_size (c := c) k.1 k.2.1 k.2.2.1 k.2.2.2)
    have n2 := gdF_n g2
    have lw : lowS (Int32.ofNat x * Int32.ofNat y) = stO (fun _ => true) (x * y) := g2.2.2.2.2.2.2.1
    refine ⟨fun v hv => ?_, fun q hq => ⟨0, by decide, (show fillF (Int32.ofInt 0) m.2.1 64 q = _ from if_pos (by have hq : q < x * y := hq; omega))⟩, r3, r4, r5⟩
    show vp_updL (zrF c.2.2.1 6) 0 (lowS (Int32.ofNat x * Int32.ofNat y)) v = stO (fun q => decide (fillF (Int32.ofInt 0) m.2.1 64 q = Int32.ofNat v)) (x * y)
    have e0 : ∀ q, q < x * y → fillF (Int32.ofInt 0) m.2.1 64 q = Int32.ofNat 0 := fun q hq => if_pos (by omega)
    by_cases w : v = 0
    · subst w
      rw [show vp_updL (zrF c.2.2.1 6) 0 (lowS (Int32.ofNat x * Int32.ofNat y)) 0 = _ from if_pos rfl, lw]
      exact stO_ext n2.1 (fun q hq => by rw [e0 q hq, decide_eq_true rfl])
    · rw [show vp_updL (zrF c.2.2.1 6) 0 (lowS (Int32.ofNat x * Int32.ofNat y)) v = zrF c.2.2.1 6 v from if_neg w, show zrF c.2.2.1 6 v = Int64.ofNat 0 from if_pos hv]
      exact (stO_no n2.1 (fun q hq => by rw [e0 q hq]; exact decide_eq_false (fun z => w (ofN_inj (by omega) (by omega) z).symm))).symm
  | 1, k =>
    have k : x < 6 ∧ y ≤ z ∧ z < s.1 * s.2.1 := k
    have g2 : c.2.1 2 = stO (fun _ => true) (s.1 * s.2.1) := g.2.2.2.2.2.2.1
    show RSs s (c.1, c.2.1, giveS c.2.2.1 6 ((lowS (Int32.ofNat (z + 1)) &&& c.2.1 2) &&& ((lowS (Int32.ofNat y) &&& c.2.1 2) ^^^ Int64.ofNat 18446744073709551615)) x, c.2.2.2) (m.1, (fun i => if y ≤ i ∧ i ≤ z then Int32.ofNat x else m.2.1 i), m.2.2)
    refine RSs_lay (s := s) (P := fun q => decide (y ≤ q ∧ q ≤ z)) hn.1 k.1 (bt_ext (fun i hi => ?_)) (fun q hq => ?_) r
    · show bt ((lowS (Int32.ofNat (z + 1)) &&& c.2.1 2) &&& ((lowS (Int32.ofNat y) &&& c.2.1 2) ^^^ lM1)) i = _
      rw [bt_and, bt_and, bt_not, bt_and, g2, bt_stO _ _ hn.1, bt_stO _ _ hn.1, bt_low2 (by omega) hi, bt_low2 (by omega) hi, decide_eq_true hi, Bool.true_and, Bool.and_true]
      by_cases w : i < s.1 * s.2.1
      · rw [decide_eq_true w, Bool.true_and, Bool.and_true, Bool.and_true]
        by_cases w1 : i < z + 1
        · by_cases w2 : i < y
          · rw [decide_eq_true w1, decide_eq_true w2, decide_eq_false (show ¬ (y ≤ i ∧ i ≤ z) by omega)]; rfl
          · rw [decide_eq_true w1, decide_eq_false w2, decide_eq_true (show y ≤ i ∧ i ≤ z by omega)]; rfl
        · rw [decide_eq_false w1, decide_eq_false (show ¬ (y ≤ i ∧ i ≤ z) by omega)]; rfl
      · rw [decide_eq_false w, Bool.and_false, Bool.false_and, Bool.false_and]
    · show (if y ≤ q ∧ q ≤ z then Int32.ofNat x else m.2.1 q) = _
      by_cases w : y ≤ q ∧ q ≤ z
      · rw [if_pos w, if_pos (decide_eq_true w)]
      · rw [if_neg w, if_neg (by rw [decide_eq_false w]; decide)]
  | 2, k => exact r
  | 3, k =>
    have k3 : s.2.2 < 5 := k.2.2
    have eN := ofN_toInt (n := s.2.2) (by omega)
    have e1 : (c.1 11).toNatClampNeg = s.2.2 := by rw [q.2.2.1]; exact i_nat eN
    have e2 : (m.1 6).toNatClampNeg = s.2.2 := by rw [p.2.2.1]; exact i_nat eN
    show RSs (s.1, s.2.1, s.2.2 + 1) (cfHeir (c.1 11).toNatClampNeg (Int32.ofNat x) c) (mfHeir (m.1 6).toNatClampNeg (Int32.ofNat x) m)
    rw [e1, e2]
    obtain ⟨r1, r2, r3, r4, r5⟩ := r
    have kx : 1 ≤ x ∧ x ≤ 9 := ⟨k.1, k.2.1⟩
    refine ⟨r1, r2, fun k hk => ?_, fun k hk v hv => ?_, fun k hk => ⟨?_, ?_, fun v hv => ?_⟩⟩
    · have hk : k < s.2.2 + 1 := hk
      show upd c.2.2.2.1 s.2.2 (Int32.ofNat x) k = upd m.2.2.2.1 s.2.2 (Int32.ofNat x) k ∧ upd c.2.2.2.2.2.1 s.2.2 0 k = upd m.2.2.2.2.1 s.2.2 (Int32.ofInt 0) k
      by_cases w : k = s.2.2
      · rw [w, u_at, u_at, u_at, u_at]; exact ⟨rfl, rfl⟩
      · rw [u_ne w, u_ne w, u_ne w, u_ne w]; exact r3 k (by omega)
    · have hk : k < s.2.2 + 1 := hk
      show (if k = s.2.2 then tenF (c.2.2.2.2.1 s.2.2) 6 else c.2.2.2.2.1 k) v = tenV m.2.2.2.2.2 s.2.2 6 (6 * k + v)
      unfold tenV
      by_cases w : k = s.2.2
      · rw [if_pos w, if_pos (show 6 * s.2.2 ≤ 6 * k + v ∧ 6 * k + v < 6 * s.2.2 + 6 by omega)]
        exact if_pos hv
      · rw [if_neg w, if_neg (show ¬ (6 * s.2.2 ≤ 6 * k + v ∧ 6 * k + v < 6 * s.2.2 + 6) by omega)]
        exact r4 k (by omega) v hv
    · have hk : k < s.2.2 + 1 := hk
      show ∃ n, 1 ≤ n ∧ n ≤ 9 ∧ upd m.2.2.2.1 s.2.2 (Int32.ofNat x) k = Int32.ofNat n
      by_cases w : k = s.2.2
      · rw [w, u_at]; exact ⟨x, kx.1, kx.2, rfl⟩
      · rw [u_ne w]; exact (r5 k (by omega)).1
    · have hk : k < s.2.2 + 1 := hk
      show upd m.2.2.2.2.1 s.2.2 (Int32.ofInt 0) k = 0 ∨ upd m.2.2.2.2.1 s.2.2 (Int32.ofInt 0) k = 1
      by_cases w : k = s.2.2
      · rw [w, u_at]; exact Or.inl rfl
      · rw [u_ne w]; exact (r5 k (by omega)).2.1
    · have hk : k < s.2.2 + 1 := hk
      show ∃ n, n < 100 ∧ tenV m.2.2.2.2.2 s.2.2 6 (6 * k + v) = Int32.ofNat n
      unfold tenV
      by_cases w : k = s.2.2
      · rw [if_pos (show 6 * s.2.2 ≤ 6 * k + v ∧ 6 * k + v < 6 * s.2.2 + 6 by omega)]; exact ⟨10, by decide, rfl⟩
      · rw [if_neg (show ¬ (6 * s.2.2 ≤ 6 * k + v ∧ 6 * k + v < 6 * s.2.2 + 6) by omega)]; exact (r5 k (by omega)).2.2 v hv
  | i + 4, k =>
    have k : x < s.2.2 ∧ y < 6 ∧ z < 100 := k
    obtain ⟨r1, r2, r3, r4, r5⟩ := r
    refine ⟨r1, r2, r3, fun k' hk v hv => ?_, fun k' hk => ⟨(r5 k' hk).1, (r5 k' hk).2.1, fun v hv => ?_⟩⟩
    rotate_left
    · show ∃ n, n < 100 ∧ upd m.2.2.2.2.2 (6 * x + y) (Int32.ofNat z) (6 * k' + v) = Int32.ofNat n
      by_cases w : 6 * k' + v = 6 * x + y
      · rw [w, u_at]; exact ⟨z, k.2.2, rfl⟩
      · rw [u_ne w]; exact (r5 k' hk).2.2 v hv
    have hk : k' < s.2.2 := hk
    show (if k' = x then upd (c.2.2.2.2.1 x) y (Int32.ofNat z) else c.2.2.2.2.1 k') v = upd m.2.2.2.2.2 (6 * x + y) (Int32.ofNat z) (6 * k' + v)
    by_cases w : k' = x
    · subst w
      rw [if_pos rfl]
      by_cases w2 : v = y
      · rw [w2, u_at, u_at]
      · rw [u_ne w2, u_ne (by omega)]; exact r4 k' hk v hv
    · rw [if_neg w, u_ne (by omega)]; exact r4 k' hk v hv
theorem RPs_do {s : Sg} {m : MF} {a : Act} (k : actOk s a) (r : RPs s m.1) : RPs (sgDo s a) (mfDo m a).1 := by
  obtain ⟨i, x, y, z⟩ := a
  match i, k with
  | 0, k =>
    intro j hj
    show okPl (x * y) (j : Int) (szJ (Int32.ofNat x) (Int32.ofNat y) m.1 (2 + j)).toInt
    rcases (show j = 0 ∨ j = 1 ∨ j = 2 ∨ j = 3 by omega) with rfl | rfl | rfl | rfl
    · exact okPl_n (r 0 hj) (Or.inl rfl)
    · exact Or.inr (Or.inl ⟨Or.inl rfl, Or.inl rfl⟩)
    · exact Or.inr (Or.inl ⟨Or.inr rfl, Or.inl rfl⟩)
    · exact okPl_n (r 3 hj) (Or.inr rfl)
  | 1, k => exact r
  | 2, k =>
    have k1 : x < 4 ∧ y < 100 ∧ okPl (s.1 * s.2.1) x y := k
    intro j hj
    show okPl (s.1 * s.2.1) (j : Int) (upd m.1 (2 + x) (Int32.ofNat y) (2 + j)).toInt
    by_cases w : j = x
    · rw [w, u_at, ofN_toInt (by omega)]; exact k1.2.2
    · rw [u_ne (by omega)]; exact r j hj
  | 3, k =>
    intro j hj
    show okPl (s.1 * s.2.1) (j : Int) (upd m.1 6 (Int32.ofNat ((m.1 6).toNatClampNeg + 1)) (2 + j)).toInt
    rw [u_ne (by omega)]
    exact r j hj
  | i + 4, k => exact r
theorem RB_ok : relOk RB := by
  refine ⟨fun c m m' r q => ⟨RN_ok.1 c m m' r.1 q, fun s hs => ⟨RSs_c (r.2 s hs).1 rfl q.2, RPs_J (r.2 s hs).2 q.1⟩⟩, fun c m s a r q p k => ?_, fun a b m r => ?_, fun c m m' g r => ?_, fun c m r => r.1, fun c m s k v r q hk hv => ?_⟩
  · have z := sg_do q p k
    obtain ⟨s', sI, -, gF, -⟩ := RN_sg r.1
    have e : s' = s := sgI_inj sI q
    subst e
    exact RB_mk (RN_ok.2.1 c m s' a r.1 q p k) z.1 (RSs_do gF q p k (r.2 s' q).1) (RPs_do k (r.2 s' q).2)
  · obtain ⟨s, sI, -⟩ := RN_sgI r.1
    have sI2 : sgI (cfBecome a b) s := ⟨(bc_I a.1 b.1 0 (by decide)).trans sI.1, (bc_I a.1 b.1 1 (by decide)).trans sI.2.1, (bc_I a.1 b.1 11 (by decide)).trans sI.2.2.1, sI.2.2.2⟩
    exact RB_mk (RN_ok.2.2.1 a b m r.1) sI2 (RSs_bec sI.2.2.2.2.2.2.2 (r.2 s sI).1) (r.2 s sI).2
  · obtain ⟨s, sI, -, gF, -⟩ := RN_sg r.1
    exact RB_mk (RN_ok.2.2.2.1 c m m' g r.1) sI (RSs_back (gdF_n gF).1 sI.2.2.2.2.2.2.2 (r.2 s sI).1 m' g) (RPs_J (r.2 s sI).2 (fun j hj => bk_sv j hj))
  · have sI2 : sgI (upd c.1 (7 + k) v, c.2) s := ⟨(u_ne (show (0 : Nat) ≠ 7 + k by omega)).trans q.1, (u_ne (show (1 : Nat) ≠ 7 + k by omega)).trans q.2.1, (u_ne (show (11 : Nat) ≠ 7 + k by omega)).trans q.2.2.1, q.2.2.2⟩
    refine RB_mk (RN_ok.2.2.2.2.2 c m s k v r.1 q hk hv) sI2 (RSs_c (r.2 s q).1 rfl rfl) (fun j hj => ?_)
    show okPl (s.1 * s.2.1) (j : Int) (upd m.1 (2 + k) v (2 + j)).toInt
    by_cases w : j = k
    · rw [w, u_at]; exact hv
    · rw [u_ne (by omega)]; exact (r.2 s q).2 j hj
theorem RB_no : noOw RB := fun c m o1 o2 r => by
  refine ⟨RN_J (m' := (m.1, m.2.1, o2, m.2.2.2)) (RN_C (c' := (c.1, c.2.1, c.2.2.1, c.2.2.2.1, c.2.2.2.2.1, c.2.2.2.2.2.1, o1)) r.1 (fun _ _ => rfl) (fun _ _ _ => rfl)) (fun _ _ => rfl), fun s hs => ?_⟩
  exact r.2 s hs
end
section
/-! ===== soil, worths, fond of both ===== -/
theorem s_hr11 {d : Nat} {h : sHp} {p : Nat} {c : CF} {N : Nat} {i : Int32} (hd : 1 ≤ d) (F : FC h p c) (hI : c.1 11 = Int32.ofNat N) (hN : N ≤ 5) : sDo d 23 [.ref p, .int i] h (fun r h' => h' = h ∧ ((0 ≤ i.toInt ∧ i.toInt < (N : Int)) ∧ r = some (.int 1) ∨ ¬ (0 ≤ i.toInt ∧ i.toInt < (N : Int)) ∧ r = some (.int 0))) := by
  have eI : (c.1 11).toInt = ((N : Nat) : Int) := by rw [hI]; exact ofN_toInt (by omega)
  refine sDo_of1 (nL := 2) (L := [some (.ref p), some (.int i)]) hd rfl rfl ?_
  refine g_iload_n (i := 1) rfl rfl ?_
  have k_2 : (0 : Int32).toInt = 0 := rfl
  refine g_if_lt 21 rfl rfl (fun c_1 => ?_) (fun c_1 => ?_)
  · skip
    rw [i_lt, k_2] at c_1
    refine g_iconst (n := 0) rfl ?_
    refine g_ireturn (ty := .boolean) rfl rfl (by decide) ?_
    exact ⟨rfl, Or.inr ⟨by omega, rfl⟩⟩
  · skip
    rw [i_lt, k_2] at c_1
    refine g_iload_n (i := 1) rfl rfl ?_
    refine g_aload_n (i := 0) rfl rfl ?_
    refine g_getfield (v := .int (c.1 11)) rfl F.1 (by decide) rfl ?_
    refine g_icmp_ge 21 rfl rfl (fun c_3 => ?_) (fun c_3 => ?_)
    · skip
      rw [i_le, eI] at c_3
      refine g_iconst (n := 0) rfl ?_
      refine g_ireturn (ty := .boolean) rfl rfl (by decide) ?_
      exact ⟨rfl, Or.inr ⟨by omega, rfl⟩⟩
    · skip
      rw [i_le, eI] at c_3
      refine g_iload_n (i := 1) rfl rfl ?_
      refine g_iconst (n := 5) rfl ?_
      have k_5 : (Int32.ofInt 5).toInt = 5 := rfl
      refine g_icmp_ge 21 rfl rfl (fun c_4 => ?_) (fun c_4 => ?_)
      · skip
        rw [i_le, k_5] at c_4
        refine g_iconst (n := 0) rfl ?_
        refine g_ireturn (ty := .boolean) rfl rfl (by decide) ?_
        exact ⟨rfl, Or.inr ⟨by omega, rfl⟩⟩
      · skip
        rw [i_le, k_5] at c_4
        refine g_iconst (n := 1) rfl ?_
        refine g_goto 22 rfl rfl ?_
        refine g_ireturn (ty := .boolean) rfl rfl (by decide) ?_
        exact ⟨rfl, Or.inl ⟨by omega, rfl⟩⟩
theorem s_hr12 {d : Nat} {h : sHp} {J : Nat → Int32} {N : Nat} {i : Int32} (hd : 1 ≤ d) (hr : h[60]? = some (mO J)) (hI : J 6 = Int32.ofNat N) (hN : N ≤ 5) : sDo d 173 [.ref 60, .int i] h (fun r h' => h' = h ∧ ((0 ≤ i.toInt ∧ i.toInt < (N : Int)) ∧ r = some (.int 1) ∨ ¬ (0 ≤ i.toInt ∧ i.toInt < (N : Int)) ∧ r = some (.int 0))) := by
  have eI : (J 6).toInt = ((N : Nat) : Int) := by rw [hI]; exact ofN_toInt (by omega)
  refine sDo_of1 (nL := 2) (L := [some (.ref 60), some (.int i)]) hd rfl rfl ?_
  refine g_iload_n (i := 1) rfl rfl ?_
  have k_2 : (0 : Int32).toInt = 0 := rfl
  refine g_if_lt 16 rfl rfl (fun c_1 => ?_) (fun c_1 => ?_)
  · skip
    rw [i_lt, k_2] at c_1
    refine g_iconst (n := 0) rfl ?_
    refine g_ireturn (ty := .boolean) rfl rfl (by decide) ?_
    exact ⟨rfl, Or.inr ⟨by omega, rfl⟩⟩
  · skip
    rw [i_lt, k_2] at c_1
    refine g_iload_n (i := 1) rfl rfl ?_
    refine g_aload_n (i := 0) rfl rfl ?_
    refine g_getfield (v := .int (J 6)) rfl hr (by decide) rfl ?_
    refine g_icmp_ge 16 rfl rfl (fun c_3 => ?_) (fun c_3 => ?_)
    · skip
      rw [i_le, eI] at c_3
      refine g_iconst (n := 0) rfl ?_
      refine g_ireturn (ty := .boolean) rfl rfl (by decide) ?_
      exact ⟨rfl, Or.inr ⟨by omega, rfl⟩⟩
    · skip
      rw [i_le, eI] at c_3
      refine g_iconst (n := 1) rfl ?_
      refine g_goto 17 rfl rfl ?_
      refine g_ireturn (ty := .boolean) rfl rfl (by decide) ?_
      exact ⟨rfl, Or.inl ⟨by omega, rfl⟩⟩
theorem s_only8 {d : Nat} {h : sHp} {p : Nat} {c : CF} {W H k : Nat} (hd : 2 ≤ d) (F : FC h p c) (g : gdF c W H) (hk : k < W * H) : sDo d 25 [.ref p, .int (Int32.ofNat k)] h (fun r h' => h' = h ∧ r = some (.long (Int64.ofNat 1 <<< ((Int32.ofNat k).toInt64 &&& 63)))) := by
  have hn := gdF_n g
  have ek := ofN_toInt (n := k) (by omega)
  refine sDo_of1 (nL := 2) (L := [some (.ref p), some (.int (Int32.ofNat k))]) (by omega) rfl rfl ?_
  refine g_aload_n (i := 0) rfl rfl ?_
  refine g_iload_n (i := 1) rfl rfl ?_
  refine g_virt1 (Qc := fun r h' => h' = h ∧ (((0 ≤ (Int32.ofNat k).toInt ∧ (Int32.ofNat k).toInt < ((W * H : Nat) : Int)) ∧ r = some (.int 1)) ∨ (¬ (0 ≤ (Int32.ofNat k).toInt ∧ (Int32.ofNat k).toInt < ((W * H : Nat) : Int)) ∧ r = some (.int 0)))) rfl (by decide) rfl F.1 rfl (Nat.le_of_ble_eq_true rfl) (s_isSq11 (by omega) F g) (fun r h hq9 => ?_)
  obtain ⟨rfl, ⟨c_1, rfl⟩ | ⟨c_1, rfl⟩⟩ := hq9
  · skip
    refine g_if_eq 14 rfl rfl (fun hc => absurd hc (by decide)) (fun _ => ?_)
    refine g_lconst (n := 1) rfl ?_
    show sGo none 25 _ 9 [some (.ref p), some (.int (Int32.ofNat k))] [.long (Int64.ofNat 1)] _ _
    refine g_iload_n (i := 1) rfl rfl ?_
    refine g_lshl rfl ?_
    refine g_goto 15 rfl rfl ?_
    refine g_lreturn rfl rfl ?_
    exact ⟨rfl, rfl⟩
  · skip
    omega
theorem bt_pick {x : Int64} {q : Nat} (hq : q < 64) : x &&& (Int64.ofNat 1 <<< ((Int32.ofNat q).toInt64 &&& 63)) = Int64.ofNat 0 ↔ bt x q = false := by
  rw [bt_eq0]
  constructor
  · intro h
    have := h q hq
    rw [bt_and, bt_one hq, decide_eq_true rfl, Bool.and_true] at this
    exact this
  · intro h i hi
    rw [bt_and, bt_one hq]
    by_cases e : i = q
    · rw [e, h, Bool.false_and]
    · rw [decide_eq_false e, Bool.and_false]
theorem s_soilAt {d : Nat} {h : sHp} {p : Nat} {c : CF} {W H q V : Nat} (hd : 2 ≤ d) (F : FC h p c) (g : gdF c W H) (hq : q < W * H) (hV : V < 6) (hb : ∀ u, u < 6 → bt (c.2.2.1 u) q = decide (u = V)) : ∀ (f k : Nat), k + f = V → sGo none 32 d 2 [some (.ref p), some (.int (Int32.ofNat q)), some (.int (Int32.ofNat k))] [] h (fun r h' => h' = h ∧ r = some (.int (Int32.ofNat V))) := by
  have hn := gdF_n g
  intro f
  induction f with
  | zero =>
    intro k hk
    have ek := ofN_toInt (n := k) (by omega)
    have e6 : (Int8.ofInt 6).toInt32.toInt = 6 := rfl
    have eV : k = V := by omega
    subst eV
    refine g_iload_n (i := 2) rfl rfl ?_
    refine g_bipush (n := 6) rfl ?_
    refine g_icmp_ge 33 rfl rfl (fun hc => absurd hc (by rw [i_le, ek, e6]; omega)) (fun _ => ?_)
    refine g_aload_n (i := 0) rfl rfl ?_
    refine g_getfield (v := .ref (p + 1)) rfl F.1 (by decide) rfl ?_
    refine g_iload_n (i := 2) rfl rfl ?_
    refine g_laload (n := 6) (f := c.2.2.1) rfl F.2.1 (i_in (by omega) (by omega)) ?_
    rw [i_nat ek]
    refine g_aload_n (i := 0) rfl rfl ?_
    refine g_iload_n (i := 1) rfl rfl ?_
    refine g_virt1 (Qc := fun r h' => h' = h ∧ r = some (.long (Int64.ofNat 1 <<< ((Int32.ofNat q).toInt64 &&& 63)))) rfl (by decide) rfl F.1 rfl (Nat.le_of_ble_eq_true rfl) (s_only8 (by omega) F g (by omega)) (fun r h hq9 => ?_)
    obtain ⟨rfl, rfl⟩ := hq9
    refine g_land rfl ?_
    refine g_lconst (n := 0) rfl ?_
    show sGo none 32 _ 21 [some (.ref p), some (.int (Int32.ofNat q)), some (.int (Int32.ofNat k))] [.long (Int64.ofNat 0), .long ((c.2.2.1 k) &&& (Int64.ofNat 1 <<< ((Int32.ofNat q).toInt64 &&& 63)))] _ _
    refine g_lcmp rfl ?_
    refine g_if_eq 27 rfl rfl (fun c_1 => ?_) (fun c_1 => ?_)
    · skip
      rw [lc_eq] at c_1
      refine g_iinc (i := 2) (L1 := [some (.ref p), some (.int (Int32.ofNat q)), some (.int ((Int32.ofNat k) + Int32.ofInt 1))]) rfl rfl rfl ?_
      rw [ofN_add (by omega)]
      refine g_goto 2 rfl rfl ?_
      exact absurd ((bt_pick (by omega)).mp c_1) (by rw [hb k hV, decide_eq_true rfl]; decide)
    · skip
      rw [lc_eq] at c_1
      refine g_iload_n (i := 2) rfl rfl ?_
      refine g_ireturn (ty := .int) rfl rfl rfl ?_
      exact ⟨rfl, rfl⟩
  | succ f ih =>
    intro k hk
    have ek := ofN_toInt (n := k) (by omega)
    have e6 : (Int8.ofInt 6).toInt32.toInt = 6 := rfl
    refine g_iload_n (i := 2) rfl rfl ?_
    refine g_bipush (n := 6) rfl ?_
    refine g_icmp_ge 33 rfl rfl (fun hc => absurd hc (by rw [i_le, ek, e6]; omega)) (fun _ => ?_)
    refine g_aload_n (i := 0) rfl rfl ?_
    refine g_getfield (v := .ref (p + 1)) rfl F.1 (by decide) rfl ?_
    refine g_iload_n (i := 2) rfl rfl ?_
    refine g_laload (n := 6) (f := c.2.2.1) rfl F.2.1 (i_in (by omega) (by omega)) ?_
    rw [i_nat ek]
    refine g_aload_n (i := 0) rfl rfl ?_
    refine g_iload_n (i := 1) rfl rfl ?_
    refine g_virt1 (Qc := fun r h' => h' = h ∧ r = some (.long (Int64.ofNat 1 <<< ((Int32.ofNat q).toInt64 &&& 63)))) rfl (by decide) rfl F.1 rfl (Nat.le_of_ble_eq_true rfl) (s_only8 (by omega) F g (by omega)) (fun r h hq9 => ?_)
    obtain ⟨rfl, rfl⟩ := hq9
    refine g_land rfl ?_
    refine g_lconst (n := 0) rfl ?_
    show sGo none 32 _ 21 [some (.ref p), some (.int (Int32.ofNat q)), some (.int (Int32.ofNat k))] [.long (Int64.ofNat 0), .long ((c.2.2.1 k) &&& (Int64.ofNat 1 <<< ((Int32.ofNat q).toInt64 &&& 63)))] _ _
    refine g_lcmp rfl ?_
    refine g_if_eq 27 rfl rfl (fun c_1 => ?_) (fun c_1 => ?_)
    · skip
      rw [lc_eq] at c_1
      refine g_iinc (i := 2) (L1 := [some (.ref p), some (.int (Int32.ofNat q)), some (.int ((Int32.ofNat k) + Int32.ofInt 1))]) rfl rfl rfl ?_
      rw [ofN_add (by omega)]
      refine g_goto 2 rfl rfl ?_
      exact ih (k + 1) (by omega)
    · skip
      rw [lc_eq] at c_1
      refine g_iload_n (i := 2) rfl rfl ?_
      refine g_ireturn (ty := .int) rfl rfl rfl ?_
      exact absurd ((bt_pick (by omega)).mpr (by rw [hb k (by omega), decide_eq_false (show ¬ k = V by omega)])) c_1
theorem sa0 {d : Nat} {h : sHp} {p : Nat} {c : CF} {W H q V : Nat} (hd : 3 ≤ d) (F : FC h p c) (g : gdF c W H) (hq : q < W * H) (hV : V < 6) (hb : ∀ u, u < 6 → bt (c.2.2.1 u) q = decide (u = V)) : sDo d 32 [.ref p, .int (Int32.ofNat q)] h (fun r h' => h' = h ∧ r = some (.int (Int32.ofNat V))) := by
  obtain ⟨d, rfl⟩ : ∃ e, d = e + 1 := ⟨d - 1, by omega⟩
  refine sDo_of (d := d) (nL := 3) (L := [some (.ref p), some (.int (Int32.ofNat q)), none]) rfl rfl ?_
  refine g_iconst (n := 0) rfl ?_
  refine g_istore_n (i := 2) (L1 := [some (.ref p), some (.int (Int32.ofNat q)), some (.int (Int32.ofInt 0))]) rfl (Nat.le_of_ble_eq_true rfl) rfl ?_
  exact s_soilAt (d := d) (by omega) F g hq hV hb V 0 (by omega)
theorem s_soil11 {d : Nat} {h : sHp} {ik tf : Int32} {R : Nat → Int32} {c : CF} {W H q V U : Nat} (hd : 5 ≤ d) (h0 : h[0]? = some (cO ik tf)) (hR : h[43]? = some (rFc R)) (F : FC h 5 c) (g : gdF c W H) (hq : q < W * H) (hU : U < 6) (hV : V < 6) (hb : ∀ u, u < 6 → bt (c.2.2.1 u) q = decide (u = U)) : sDo d 125 [.ref 0, .int (Int32.ofNat q), .int (Int32.ofNat V)] h (fun r h' => r = some (.int (Int32.ofNat U)) ∧ h' = h.set 6 (.inl (1, 6, .inr (.inl (giveS c.2.2.1 6 (Int64.ofNat 1 <<< ((Int32.ofNat q).toInt64 &&& 63)) V))))) := by
  have hn := gdF_n g
  have eq := ofN_toInt (n := q) (by omega)
  have eV := ofN_toInt (n := V) (by omega)
  refine sDo_of1 (nL := 4) (L := [some (.ref 0), some (.int (Int32.ofNat q)), some (.int (Int32.ofNat V)), none]) (by omega) rfl rfl ?_
  refine g_aload_n (i := 0) rfl rfl ?_
  refine g_getfield (v := .ref 5) rfl h0 (by decide) rfl ?_
  refine g_iload_n (i := 1) rfl rfl ?_
  refine g_virt1 (Qc := fun r h' => h' = h ∧ (((0 ≤ (Int32.ofNat q).toInt ∧ (Int32.ofNat q).toInt < ((W * H : Nat) : Int)) ∧ r = some (.int 1)) ∨ (¬ (0 ≤ (Int32.ofNat q).toInt ∧ (Int32.ofNat q).toInt < ((W * H : Nat) : Int)) ∧ r = some (.int 0)))) rfl (by decide) rfl F.1 rfl (Nat.le_of_ble_eq_true rfl) (s_isSq11 (by omega) F g) (fun r h hq9 => ?_)
  obtain ⟨rfl, ⟨c_1, rfl⟩ | ⟨c_1, rfl⟩⟩ := hq9
  · skip
    refine g_if_eq 21 rfl rfl (fun hc => absurd hc (by decide)) (fun _ => ?_)
    refine g_iload_n (i := 2) rfl rfl ?_
    have k_3 : (0 : Int32).toInt = 0 := rfl
    refine g_if_lt 21 rfl rfl (fun c_2 => ?_) (fun c_2 => ?_)
    · skip
      rw [i_lt, eV, k_3] at c_2
      refine g_aload_n (i := 0) rfl rfl ?_
      refine g_iconst (n := (-1)) rfl ?_
      omega
    · skip
      rw [i_lt, eV, k_3] at c_2
      refine g_iload_n (i := 2) rfl rfl ?_
      refine g_bipush (n := 6) rfl ?_
      have k_5 : ((Int8.ofInt 6).toInt32).toInt = 6 := rfl
      refine g_icmp_lt 27 rfl rfl (fun c_4 => ?_) (fun c_4 => ?_)
      · skip
        rw [i_lt, eV, k_5] at c_4
        refine g_aload_n (i := 0) rfl rfl ?_
        refine g_getfield (v := .ref 5) rfl h0 (by decide) rfl ?_
        refine g_iload_n (i := 1) rfl rfl ?_
        refine g_virt1 (Qc := fun r h' => h' = h ∧ r = some (.int (Int32.ofNat U))) rfl (by decide) rfl F.1 rfl (Nat.le_of_ble_eq_true rfl) (sa0 (by omega) F g hq hU hb) (fun r h hq9 => ?_)
        obtain ⟨rfl, rfl⟩ := hq9
        refine g_istore_n (i := 3) (L1 := [some (.ref 0), some (.int (Int32.ofNat q)), some (.int (Int32.ofNat V)), some (.int (Int32.ofNat U))]) rfl (Nat.le_of_ble_eq_true rfl) rfl ?_
        refine g_aload_n (i := 0) rfl rfl ?_
        refine g_getfield (v := .ref 5) rfl h0 (by decide) rfl ?_
        refine g_aload_n (i := 0) rfl rfl ?_
        refine g_getfield (v := .ref 5) rfl h0 (by decide) rfl ?_
        refine g_iload_n (i := 1) rfl rfl ?_
        refine g_virt1 (Qc := fun r h' => h' = h ∧ r = some (.long (Int64.ofNat 1 <<< ((Int32.ofNat q).toInt64 &&& 63)))) rfl (by decide) rfl F.1 rfl (Nat.le_of_ble_eq_true rfl) (s_only8 (by omega) F g (by omega)) (fun r h hq9 => ?_)
        obtain ⟨rfl, rfl⟩ := hq9
        refine g_iload_n (i := 2) rfl rfl ?_
        refine g_virt2 (Qc := fun r h' => r = none ∧ h' = h.set (5 + 1) (.inl (1, 6, .inr (.inl (giveS c.2.2.1 6 (Int64.ofNat 1 <<< ((Int32.ofNat q).toInt64 &&& 63)) V))))) rfl (by decide) rfl F.1 rfl (Nat.le_of_ble_eq_true rfl) (sDo_up (d := 2) (by omega) (s_laySoil (d := 0) (set := (Int64.ofNat 1 <<< ((Int32.ofNat q).toInt64 &&& 63))) F eV hV)) (fun r h9 hq9 => ?_)
        obtain ⟨rfl, rfl⟩ := hq9
        refine g_iload_n (i := 3) rfl rfl ?_
        refine g_ireturn (ty := .int) rfl rfl rfl ?_
        exact ⟨rfl, rfl⟩
      · skip
        rw [i_lt, eV, k_5] at c_4
        refine g_aload_n (i := 0) rfl rfl ?_
        refine g_iconst (n := (-1)) rfl ?_
        omega
  · skip
    omega
theorem s_soil11n {d : Nat} {h : sHp} {ik tf : Int32} {R : Nat → Int32} {c : CF} {W H : Nat} {x v : Int32} (hd : 4 ≤ d) (h0 : h[0]? = some (cO ik tf)) (hR : h[43]? = some (rFc R)) (F : FC h 5 c) (g : gdF c W H) (hx : ¬ ((0 ≤ x.toInt ∧ x.toInt < ((W * H : Nat) : Int)) ∧ 0 ≤ v.toInt ∧ v.toInt < 6)) : sDo d 125 [.ref 0, .int x, .int v] h (fun r h' => r = some (.int (-1)) ∧ h' = h.set 43 (rFc (bump R 1))) := by
  refine sDo_of1 (nL := 4) (L := [some (.ref 0), some (.int x), some (.int v), none]) (by omega) rfl rfl ?_
  refine g_aload_n (i := 0) rfl rfl ?_
  refine g_getfield (v := .ref 5) rfl h0 (by decide) rfl ?_
  refine g_iload_n (i := 1) rfl rfl ?_
  refine g_virt1 (Qc := fun r h' => h' = h ∧ (((0 ≤ x.toInt ∧ x.toInt < ((W * H : Nat) : Int)) ∧ r = some (.int 1)) ∨ (¬ (0 ≤ x.toInt ∧ x.toInt < ((W * H : Nat) : Int)) ∧ r = some (.int 0)))) rfl (by decide) rfl F.1 rfl (Nat.le_of_ble_eq_true rfl) (s_isSq11 (by omega) F g) (fun r h hq9 => ?_)
  obtain ⟨rfl, ⟨c_1, rfl⟩ | ⟨c_1, rfl⟩⟩ := hq9
  · skip
    refine g_if_eq 21 rfl rfl (fun hc => absurd hc (by decide)) (fun _ => ?_)
    refine g_iload_n (i := 2) rfl rfl ?_
    have k_3 : (0 : Int32).toInt = 0 := rfl
    refine g_if_lt 21 rfl rfl (fun c_2 => ?_) (fun c_2 => ?_)
    · skip
      rw [i_lt, k_3] at c_2
      refine g_aload_n (i := 0) rfl rfl ?_
      refine g_iconst (n := (-1)) rfl ?_
      refine g_virt1 (Qc := fun r h' => r = some (.int ((Int32.ofInt (-1)))) ∧ h' = h.set 43 (rFc (bump R 1))) rfl (by decide) rfl h0 rfl (Nat.le_of_ble_eq_true rfl) (s_refuse2 (X := 1) (by omega) h0 hR rfl (by decide)) (fun r h9 hq9 => ?_)
      obtain ⟨rfl, rfl⟩ := hq9
      refine g_ireturn (ty := .int) rfl rfl rfl ?_
      exact ⟨rfl, rfl⟩
    · skip
      rw [i_lt, k_3] at c_2
      refine g_iload_n (i := 2) rfl rfl ?_
      refine g_bipush (n := 6) rfl ?_
      have k_5 : ((Int8.ofInt 6).toInt32).toInt = 6 := rfl
      refine g_icmp_lt 27 rfl rfl (fun c_4 => ?_) (fun c_4 => ?_)
      · skip
        rw [i_lt, k_5] at c_4
        exfalso; omega
      · skip
        rw [i_lt, k_5] at c_4
        refine g_aload_n (i := 0) rfl rfl ?_
        refine g_iconst (n := (-1)) rfl ?_
        refine g_virt1 (Qc := fun r h' => r = some (.int ((Int32.ofInt (-1)))) ∧ h' = h.set 43 (rFc (bump R 1))) rfl (by decide) rfl h0 rfl (Nat.le_of_ble_eq_true rfl) (s_refuse2 (X := 1) (by omega) h0 hR rfl (by decide)) (fun r h9 hq9 => ?_)
        obtain ⟨rfl, rfl⟩ := hq9
        refine g_ireturn (ty := .int) rfl rfl rfl ?_
        exact ⟨rfl, rfl⟩
  · skip
    refine g_if_eq 21 rfl rfl (fun _ => ?_) (fun hc => absurd hc (by decide))
    refine g_aload_n (i := 0) rfl rfl ?_
    refine g_iconst (n := (-1)) rfl ?_
    refine g_virt1 (Qc := fun r h' => r = some (.int ((Int32.ofInt (-1)))) ∧ h' = h.set 43 (rFc (bump R 1))) rfl (by decide) rfl h0 rfl (Nat.le_of_ble_eq_true rfl) (s_refuse2 (X := 1) (by omega) h0 hR rfl (by decide)) (fun r h9 hq9 => ?_)
    obtain ⟨rfl, rfl⟩ := hq9
    refine g_ireturn (ty := .int) rfl rfl rfl ?_
    exact ⟨rfl, rfl⟩
theorem s_soil12 {d : Nat} {h : sHp} {m : MF} {W H q V : Nat} (hd : 3 ≤ d) (M : MC h m) (g : gdM m.1 W H) (hq : q < W * H) (hV : V < 6) : sDo d 205 [.ref 60, .int (Int32.ofNat q), .int (Int32.ofNat V)] h (fun r h' => r = some (.int (m.2.1 q)) ∧ h' = h.set 62 (.inl (0, 64, .inl (upd m.2.1 q (Int32.ofNat V))))) := by
  have hn : W * H ≤ 64 := wh_le8 g.2.2.2.1 g.2.2.2.2.2
  have eq := ofN_toInt (n := q) (by omega)
  have eV := ofN_toInt (n := V) (by omega)
  refine sDo_of1 (nL := 4) (L := [some (.ref 60), some (.int (Int32.ofNat q)), some (.int (Int32.ofNat V)), none]) (by omega) rfl rfl ?_
  refine g_aload_n (i := 0) rfl rfl ?_
  refine g_iload_n (i := 1) rfl rfl ?_
  refine g_virt1 (Qc := fun r h' => h' = h ∧ (((0 ≤ (Int32.ofNat q).toInt ∧ (Int32.ofNat q).toInt < ((W * H : Nat) : Int)) ∧ r = some (.int 1)) ∨ (¬ (0 ≤ (Int32.ofNat q).toInt ∧ (Int32.ofNat q).toInt < ((W * H : Nat) : Int)) ∧ r = some (.int 0)))) rfl (by decide) rfl M.1 rfl (Nat.le_of_ble_eq_true rfl) (s_isSq12 (by omega) M.1 g) (fun r h hq9 => ?_)
  obtain ⟨rfl, ⟨c_1, rfl⟩ | ⟨c_1, rfl⟩⟩ := hq9
  · skip
    refine g_if_eq 17 rfl rfl (fun hc => absurd hc (by decide)) (fun _ => ?_)
    refine g_iload_n (i := 2) rfl rfl ?_
    have k_3 : (0 : Int32).toInt = 0 := rfl
    refine g_if_lt 17 rfl rfl (fun c_2 => ?_) (fun c_2 => ?_)
    · skip
      rw [i_lt, eV, k_3] at c_2
      refine g_aload_n (i := 0) rfl rfl ?_
      refine g_iconst (n := (-1)) rfl ?_
      omega
    · skip
      rw [i_lt, eV, k_3] at c_2
      refine g_iload_n (i := 2) rfl rfl ?_
      refine g_iconst (n := 5) rfl ?_
      have k_5 : (Int32.ofInt 5).toInt = 5 := rfl
      refine g_icmp_le 23 rfl rfl (fun c_4 => ?_) (fun c_4 => ?_)
      · skip
        rw [i_le, eV, k_5] at c_4
        refine g_aload_n (i := 0) rfl rfl ?_
        refine g_getfield (v := .ref 62) rfl M.1 (by decide) rfl ?_
        refine g_iload_n (i := 1) rfl rfl ?_
        refine g_iaload (n := 64) (f := m.2.1) rfl M.2.1 (i_in (by omega) (by omega)) ?_
        rw [i_nat eq]
        refine g_istore_n (i := 3) (L1 := [some (.ref 60), some (.int (Int32.ofNat q)), some (.int (Int32.ofNat V)), some (.int (m.2.1 q))]) rfl (Nat.le_of_ble_eq_true rfl) rfl ?_
        refine g_aload_n (i := 0) rfl rfl ?_
        refine g_getfield (v := .ref 62) rfl M.1 (by decide) rfl ?_
        refine g_iload_n (i := 1) rfl rfl ?_
        refine g_iload_n (i := 2) rfl rfl ?_
        refine g_iastore (n := 64) (f := m.2.1) (h1 := h.set 62 (.inl (0, 64, .inl (upd m.2.1 q (Int32.ofNat V))))) rfl M.2.1 (i_in (by omega) (by omega)) (by rw [i_nat eq]) ?_
        refine g_iload_n (i := 3) rfl rfl ?_
        refine g_ireturn (ty := .int) rfl rfl rfl ?_
        exact ⟨rfl, rfl⟩
      · skip
        rw [i_le, eV, k_5] at c_4
        refine g_aload_n (i := 0) rfl rfl ?_
        refine g_iconst (n := (-1)) rfl ?_
        omega
  · skip
    omega
theorem s_soil12n {d : Nat} {h : sHp} {R : Nat → Int32} {m : MF} {W H : Nat} {x v : Int32} (hd : 3 ≤ d) (M : MC h m) (hR : h[61]? = some (rFc R)) (g : gdM m.1 W H) (hx : ¬ ((0 ≤ x.toInt ∧ x.toInt < ((W * H : Nat) : Int)) ∧ 0 ≤ v.toInt ∧ v.toInt < 6)) : sDo d 205 [.ref 60, .int x, .int v] h (fun r h' => r = some (.int (-1)) ∧ h' = h.set 61 (rFc (bump R 1))) := by
  refine sDo_of1 (nL := 4) (L := [some (.ref 60), some (.int x), some (.int v), none]) (by omega) rfl rfl ?_
  refine g_aload_n (i := 0) rfl rfl ?_
  refine g_iload_n (i := 1) rfl rfl ?_
  refine g_virt1 (Qc := fun r h' => h' = h ∧ (((0 ≤ x.toInt ∧ x.toInt < ((W * H : Nat) : Int)) ∧ r = some (.int 1)) ∨ (¬ (0 ≤ x.toInt ∧ x.toInt < ((W * H : Nat) : Int)) ∧ r = some (.int 0)))) rfl (by decide) rfl M.1 rfl (Nat.le_of_ble_eq_true rfl) (s_isSq12 (by omega) M.1 g) (fun r h hq9 => ?_)
  obtain ⟨rfl, ⟨c_1, rfl⟩ | ⟨c_1, rfl⟩⟩ := hq9
  · skip
    refine g_if_eq 17 rfl rfl (fun hc => absurd hc (by decide)) (fun _ => ?_)
    refine g_iload_n (i := 2) rfl rfl ?_
    have k_3 : (0 : Int32).toInt = 0 := rfl
    refine g_if_lt 17 rfl rfl (fun c_2 => ?_) (fun c_2 => ?_)
    · skip
      rw [i_lt, k_3] at c_2
      refine g_aload_n (i := 0) rfl rfl ?_
      refine g_iconst (n := (-1)) rfl ?_
      refine g_virt1 (Qc := fun r h' => r = some (.int ((Int32.ofInt (-1)))) ∧ h' = h.set 61 (rFc (bump R 1))) rfl (by decide) rfl M.1 rfl (Nat.le_of_ble_eq_true rfl) (s_no2 (X := 1) (by omega) M.1 hR rfl (by decide)) (fun r h9 hq9 => ?_)
      obtain ⟨rfl, rfl⟩ := hq9
      refine g_ireturn (ty := .int) rfl rfl rfl ?_
      exact ⟨rfl, rfl⟩
    · skip
      rw [i_lt, k_3] at c_2
      refine g_iload_n (i := 2) rfl rfl ?_
      refine g_iconst (n := 5) rfl ?_
      have k_5 : (Int32.ofInt 5).toInt = 5 := rfl
      refine g_icmp_le 23 rfl rfl (fun c_4 => ?_) (fun c_4 => ?_)
      · skip
        rw [i_le, k_5] at c_4
        exfalso; omega
      · skip
        rw [i_le, k_5] at c_4
        refine g_aload_n (i := 0) rfl rfl ?_
        refine g_iconst (n := (-1)) rfl ?_
        refine g_virt1 (Qc := fun r h' => r = some (.int ((Int32.ofInt (-1)))) ∧ h' = h.set 61 (rFc (bump R 1))) rfl (by decide) rfl M.1 rfl (Nat.le_of_ble_eq_true rfl) (s_no2 (X := 1) (by omega) M.1 hR rfl (by decide)) (fun r h9 hq9 => ?_)
        obtain ⟨rfl, rfl⟩ := hq9
        refine g_ireturn (ty := .int) rfl rfl rfl ?_
        exact ⟨rfl, rfl⟩
  · skip
    refine g_if_eq 17 rfl rfl (fun _ => ?_) (fun hc => absurd hc (by decide))
    refine g_aload_n (i := 0) rfl rfl ?_
    refine g_iconst (n := (-1)) rfl ?_
    refine g_virt1 (Qc := fun r h' => r = some (.int ((Int32.ofInt (-1)))) ∧ h' = h.set 61 (rFc (bump R 1))) rfl (by decide) rfl M.1 rfl (Nat.le_of_ble_eq_true rfl) (s_no2 (X := 1) (by omega) M.1 hR rfl (by decide)) (fun r h9 hq9 => ?_)
    obtain ⟨rfl, rfl⟩ := hq9
    refine g_ireturn (ty := .int) rfl rfl rfl ?_
    exact ⟨rfl, rfl⟩
theorem s_worths11 {d : Nat} {h : sHp} {ik tf : Int32} {c : CF} {N i V X : Nat} (hd : 3 ≤ d) (h0 : h[0]? = some (cO ik tf)) (F : FC h 5 c) (hI : c.1 11 = Int32.ofNat N) (hN : N ≤ 5) (hi : i < N) (hV : V < 6) (hX : X < 100) : sDo d 128 [.ref 0, .int (Int32.ofNat i), .int (Int32.ofNat V), .int (Int32.ofNat X)] h (fun r h' => r = some (.int (c.2.2.2.2.1 i V)) ∧ h' = h.set (5 + 4 + i) (.inl (0, 6, .inl (upd (c.2.2.2.2.1 i) V (Int32.ofNat X))))) := by
  have ei := ofN_toInt (n := i) (by omega)
  have eV := ofN_toInt (n := V) (by omega)
  have eX := ofN_toInt (n := X) (by omega)
  obtain ⟨f, a3, a4⟩ := id F.2.2.2.1
  have a5 := F.2.2.2.2.1 i (by omega)
  refine sDo_of1 (nL := 5) (L := [some (.ref 0), some (.int (Int32.ofNat i)), some (.int (Int32.ofNat V)), some (.int (Int32.ofNat X)), none]) (by omega) rfl rfl ?_
  refine g_aload_n (i := 0) rfl rfl ?_
  refine g_getfield (v := .ref 5) rfl h0 (by decide) rfl ?_
  refine g_iload_n (i := 1) rfl rfl ?_
  refine g_virt1 (Qc := fun r h' => h' = h ∧ (((0 ≤ (Int32.ofNat i).toInt ∧ (Int32.ofNat i).toInt < (N : Int)) ∧ r = some (.int 1)) ∨ (¬ (0 ≤ (Int32.ofNat i).toInt ∧ (Int32.ofNat i).toInt < (N : Int)) ∧ r = some (.int 0)))) rfl (by decide) rfl F.1 rfl (Nat.le_of_ble_eq_true rfl) (s_hr11 (by omega) F hI hN) (fun r h hq9 => ?_)
  obtain ⟨rfl, ⟨c_1, rfl⟩ | ⟨c_1, rfl⟩⟩ := hq9
  · skip
    refine g_if_eq 21 rfl rfl (fun hc => absurd hc (by decide)) (fun _ => ?_)
    refine g_iload_n (i := 2) rfl rfl ?_
    have k_3 : (0 : Int32).toInt = 0 := rfl
    refine g_if_lt 21 rfl rfl (fun c_2 => ?_) (fun c_2 => ?_)
    · skip
      rw [i_lt, eV, k_3] at c_2
      refine g_aload_n (i := 0) rfl rfl ?_
      refine g_iconst (n := (-1)) rfl ?_
      omega
    · skip
      rw [i_lt, eV, k_3] at c_2
      refine g_iload_n (i := 2) rfl rfl ?_
      refine g_bipush (n := 6) rfl ?_
      have k_5 : ((Int8.ofInt 6).toInt32).toInt = 6 := rfl
      refine g_icmp_lt 27 rfl rfl (fun c_4 => ?_) (fun c_4 => ?_)
      · skip
        rw [i_lt, eV, k_5] at c_4
        refine g_iload_n (i := 3) rfl rfl ?_
        refine g_if_lt 37 rfl rfl (fun c_6 => ?_) (fun c_6 => ?_)
        · skip
          rw [i_lt, eX, k_3] at c_6
          refine g_aload_n (i := 0) rfl rfl ?_
          refine g_bipush (n := (-6)) rfl ?_
          omega
        · skip
          rw [i_lt, eX, k_3] at c_6
          refine g_iload_n (i := 3) rfl rfl ?_
          refine g_bipush (n := 99) rfl ?_
          have k_8 : ((Int8.ofInt 99).toInt32).toInt = 99 := rfl
          refine g_icmp_le 44 rfl rfl (fun c_7 => ?_) (fun c_7 => ?_)
          · skip
            rw [i_le, eX, k_8] at c_7
            refine g_aload_n (i := 0) rfl rfl ?_
            refine g_getfield (v := .ref 5) rfl h0 (by decide) rfl ?_
            refine g_getfield (v := .ref (5 + 3)) rfl F.1 (by decide) rfl ?_
            refine g_iload_n (i := 1) rfl rfl ?_
            refine g_aaload rfl a3 (by decide) (i_in (by omega) (by omega)) ?_
            rw [i_nat ei, a4 i (by omega)]
            show sGo none 128 _ 53 [some (.ref 0), some (.int (Int32.ofNat i)), some (.int (Int32.ofNat V)), some (.int (Int32.ofNat X)), none] (.ref (5 + 4 + i) :: []) _ _
            refine g_iload_n (i := 2) rfl rfl ?_
            refine g_iaload (n := 6) (f := (c.2.2.2.2.1 i)) rfl a5 (i_in (by omega) (by omega)) ?_
            rw [i_nat eV]
            refine g_istore (i := 4) (L1 := [some (.ref 0), some (.int (Int32.ofNat i)), some (.int (Int32.ofNat V)), some (.int (Int32.ofNat X)), some (.int ((c.2.2.2.2.1 i) V))]) rfl (Nat.le_of_ble_eq_true rfl) rfl ?_
            refine g_aload_n (i := 0) rfl rfl ?_
            refine g_getfield (v := .ref 5) rfl h0 (by decide) rfl ?_
            refine g_getfield (v := .ref (5 + 3)) rfl F.1 (by decide) rfl ?_
            refine g_iload_n (i := 1) rfl rfl ?_
            refine g_aaload rfl a3 (by decide) (i_in (by omega) (by omega)) ?_
            rw [i_nat ei, a4 i (by omega)]
            show sGo none 128 _ 66 [some (.ref 0), some (.int (Int32.ofNat i)), some (.int (Int32.ofNat V)), some (.int (Int32.ofNat X)), some (.int ((c.2.2.2.2.1 i) V))] (.ref (5 + 4 + i) :: []) _ _
            refine g_iload_n (i := 2) rfl rfl ?_
            refine g_iload_n (i := 3) rfl rfl ?_
            refine g_iastore (n := 6) (f := (c.2.2.2.2.1 i)) (h1 := h.set (5 + 4 + i) (.inl (0, 6, .inl (upd (c.2.2.2.2.1 i) V (Int32.ofNat X))))) rfl a5 (i_in (by omega) (by omega)) (by rw [i_nat eV]) ?_
            refine g_iload (i := 4) rfl rfl ?_
            refine g_ireturn (ty := .int) rfl rfl rfl ?_
            exact ⟨rfl, rfl⟩
          · skip
            rw [i_le, eX, k_8] at c_7
            refine g_aload_n (i := 0) rfl rfl ?_
            refine g_bipush (n := (-6)) rfl ?_
            omega
      · skip
        rw [i_lt, eV, k_5] at c_4
        refine g_aload_n (i := 0) rfl rfl ?_
        refine g_iconst (n := (-1)) rfl ?_
        omega
  · skip
    omega
theorem s_worths11n {d : Nat} {h : sHp} {ik tf : Int32} {R : Nat → Int32} {c : CF} {N : Nat} {x v y : Int32} (hd : 3 ≤ d) (h0 : h[0]? = some (cO ik tf)) (hR : h[43]? = some (rFc R)) (F : FC h 5 c) (hI : c.1 11 = Int32.ofNat N) (hN : N ≤ 5) (hx : ¬ ((0 ≤ x.toInt ∧ x.toInt < (N : Int)) ∧ (0 ≤ v.toInt ∧ v.toInt < 6) ∧ 0 ≤ y.toInt ∧ y.toInt < 100)) : sDo d 128 [.ref 0, .int x, .int v, .int y] h (fun r h' => (¬ ((0 ≤ x.toInt ∧ x.toInt < (N : Int)) ∧ (0 ≤ v.toInt ∧ v.toInt < 6)) ∧ r = some (.int (-1)) ∧ h' = h.set 43 (rFc (bump R 1))) ∨ (((0 ≤ x.toInt ∧ x.toInt < (N : Int)) ∧ (0 ≤ v.toInt ∧ v.toInt < 6)) ∧ r = some (.int (-6)) ∧ h' = h.set 43 (rFc (bump R 6)))) := by
  refine sDo_of1 (nL := 5) (L := [some (.ref 0), some (.int x), some (.int v), some (.int y), none]) (by omega) rfl rfl ?_
  refine g_aload_n (i := 0) rfl rfl ?_
  refine g_getfield (v := .ref 5) rfl h0 (by decide) rfl ?_
  refine g_iload_n (i := 1) rfl rfl ?_
  refine g_virt1 (Qc := fun r h' => h' = h ∧ (((0 ≤ x.toInt ∧ x.toInt < (N : Int)) ∧ r = some (.int 1)) ∨ (¬ (0 ≤ x.toInt ∧ x.toInt < (N : Int)) ∧ r = some (.int 0)))) rfl (by decide) rfl F.1 rfl (Nat.le_of_ble_eq_true rfl) (s_hr11 (by omega) F hI hN) (fun r h hq9 => ?_)
  obtain ⟨rfl, ⟨c_1, rfl⟩ | ⟨c_1, rfl⟩⟩ := hq9
  · skip
    refine g_if_eq 21 rfl rfl (fun hc => absurd hc (by decide)) (fun _ => ?_)
    refine g_iload_n (i := 2) rfl rfl ?_
    have k_3 : (0 : Int32).toInt = 0 := rfl
    refine g_if_lt 21 rfl rfl (fun c_2 => ?_) (fun c_2 => ?_)
    · skip
      rw [i_lt, k_3] at c_2
      refine g_aload_n (i := 0) rfl rfl ?_
      refine g_iconst (n := (-1)) rfl ?_
      refine g_virt1 (Qc := fun r h' => r = some (.int ((Int32.ofInt (-1)))) ∧ h' = h.set 43 (rFc (bump R 1))) rfl (by decide) rfl h0 rfl (Nat.le_of_ble_eq_true rfl) (s_refuse2 (X := 1) (by omega) h0 hR rfl (by decide)) (fun r h9 hq9 => ?_)
      obtain ⟨rfl, rfl⟩ := hq9
      refine g_ireturn (ty := .int) rfl rfl rfl ?_
      exact Or.inl ⟨by omega, rfl, rfl⟩
    · skip
      rw [i_lt, k_3] at c_2
      refine g_iload_n (i := 2) rfl rfl ?_
      refine g_bipush (n := 6) rfl ?_
      have k_5 : ((Int8.ofInt 6).toInt32).toInt = 6 := rfl
      refine g_icmp_lt 27 rfl rfl (fun c_4 => ?_) (fun c_4 => ?_)
      · skip
        rw [i_lt, k_5] at c_4
        refine g_iload_n (i := 3) rfl rfl ?_
        refine g_if_lt 37 rfl rfl (fun c_6 => ?_) (fun c_6 => ?_)
        · skip
          rw [i_lt, k_3] at c_6
          refine g_aload_n (i := 0) rfl rfl ?_
          refine g_bipush (n := (-6)) rfl ?_
          refine g_virt1 (Qc := fun r h' => r = some (.int ((Int8.ofInt (-6)).toInt32)) ∧ h' = h.set 43 (rFc (bump R 6))) rfl (by decide) rfl h0 rfl (Nat.le_of_ble_eq_true rfl) (s_refuse2 (X := 6) (by omega) h0 hR rfl (by decide)) (fun r h9 hq9 => ?_)
          obtain ⟨rfl, rfl⟩ := hq9
          refine g_ireturn (ty := .int) rfl rfl rfl ?_
          exact Or.inr ⟨by omega, rfl, rfl⟩
        · skip
          rw [i_lt, k_3] at c_6
          refine g_iload_n (i := 3) rfl rfl ?_
          refine g_bipush (n := 99) rfl ?_
          have k_8 : ((Int8.ofInt 99).toInt32).toInt = 99 := rfl
          refine g_icmp_le 44 rfl rfl (fun c_7 => ?_) (fun c_7 => ?_)
          · skip
            rw [i_le, k_8] at c_7
            exfalso; omega
          · skip
            rw [i_le, k_8] at c_7
            refine g_aload_n (i := 0) rfl rfl ?_
            refine g_bipush (n := (-6)) rfl ?_
            refine g_virt1 (Qc := fun r h' => r = some (.int ((Int8.ofInt (-6)).toInt32)) ∧ h' = h.set 43 (rFc (bump R 6))) rfl (by decide) rfl h0 rfl (Nat.le_of_ble_eq_true rfl) (s_refuse2 (X := 6) (by omega) h0 hR rfl (by decide)) (fun r h9 hq9 => ?_)
            obtain ⟨rfl, rfl⟩ := hq9
            refine g_ireturn (ty := .int) rfl rfl rfl ?_
            exact Or.inr ⟨by omega, rfl, rfl⟩
      · skip
        rw [i_lt, k_5] at c_4
        refine g_aload_n (i := 0) rfl rfl ?_
        refine g_iconst (n := (-1)) rfl ?_
        refine g_virt1 (Qc := fun r h' => r = some (.int ((Int32.ofInt (-1)))) ∧ h' = h.set 43 (rFc (bump R 1))) rfl (by decide) rfl h0 rfl (Nat.le_of_ble_eq_true rfl) (s_refuse2 (X := 1) (by omega) h0 hR rfl (by decide)) (fun r h9 hq9 => ?_)
        obtain ⟨rfl, rfl⟩ := hq9
        refine g_ireturn (ty := .int) rfl rfl rfl ?_
        exact Or.inl ⟨by omega, rfl, rfl⟩
  · skip
    refine g_if_eq 21 rfl rfl (fun _ => ?_) (fun hc => absurd hc (by decide))
    refine g_aload_n (i := 0) rfl rfl ?_
    refine g_iconst (n := (-1)) rfl ?_
    refine g_virt1 (Qc := fun r h' => r = some (.int ((Int32.ofInt (-1)))) ∧ h' = h.set 43 (rFc (bump R 1))) rfl (by decide) rfl h0 rfl (Nat.le_of_ble_eq_true rfl) (s_refuse2 (X := 1) (by omega) h0 hR rfl (by decide)) (fun r h9 hq9 => ?_)
    obtain ⟨rfl, rfl⟩ := hq9
    refine g_ireturn (ty := .int) rfl rfl rfl ?_
    exact Or.inl ⟨by omega, rfl, rfl⟩
theorem s_worths12 {d : Nat} {h : sHp} {m : MF} {N i V X : Nat} (hd : 3 ≤ d) (M : MC h m) (hI : m.1 6 = Int32.ofNat N) (hN : N ≤ 5) (hi : i < N) (hV : V < 6) (hX : X < 100) : sDo d 208 [.ref 60, .int (Int32.ofNat i), .int (Int32.ofNat V), .int (Int32.ofNat X)] h (fun r h' => r = some (.int (m.2.2.2.2.2 (6 * i + V))) ∧ h' = h.set 66 (.inl (0, 30, .inl (upd m.2.2.2.2.2 (6 * i + V) (Int32.ofNat X))))) := by
  have ei := ofN_toInt (n := i) (by omega)
  have eV := ofN_toInt (n := V) (by omega)
  have eX := ofN_toInt (n := X) (by omega)
  refine sDo_of1 (nL := 5) (L := [some (.ref 60), some (.int (Int32.ofNat i)), some (.int (Int32.ofNat V)), some (.int (Int32.ofNat X)), none]) (by omega) rfl rfl ?_
  refine g_aload_n (i := 0) rfl rfl ?_
  refine g_iload_n (i := 1) rfl rfl ?_
  refine g_virt1 (Qc := fun r h' => h' = h ∧ (((0 ≤ (Int32.ofNat i).toInt ∧ (Int32.ofNat i).toInt < (N : Int)) ∧ r = some (.int 1)) ∨ (¬ (0 ≤ (Int32.ofNat i).toInt ∧ (Int32.ofNat i).toInt < (N : Int)) ∧ r = some (.int 0)))) rfl (by decide) rfl M.1 rfl (Nat.le_of_ble_eq_true rfl) (s_hr12 (by omega) M.1 hI hN) (fun r h hq9 => ?_)
  obtain ⟨rfl, ⟨c_1, rfl⟩ | ⟨c_1, rfl⟩⟩ := hq9
  · skip
    refine g_if_eq 17 rfl rfl (fun hc => absurd hc (by decide)) (fun _ => ?_)
    refine g_iload_n (i := 2) rfl rfl ?_
    have k_3 : (0 : Int32).toInt = 0 := rfl
    refine g_if_lt 17 rfl rfl (fun c_2 => ?_) (fun c_2 => ?_)
    · skip
      rw [i_lt, eV, k_3] at c_2
      refine g_aload_n (i := 0) rfl rfl ?_
      refine g_iconst (n := (-1)) rfl ?_
      omega
    · skip
      rw [i_lt, eV, k_3] at c_2
      refine g_iload_n (i := 2) rfl rfl ?_
      refine g_iconst (n := 5) rfl ?_
      have k_5 : (Int32.ofInt 5).toInt = 5 := rfl
      refine g_icmp_le 23 rfl rfl (fun c_4 => ?_) (fun c_4 => ?_)
      · skip
        rw [i_le, eV, k_5] at c_4
        refine g_iload_n (i := 3) rfl rfl ?_
        refine g_if_lt 33 rfl rfl (fun c_6 => ?_) (fun c_6 => ?_)
        · skip
          rw [i_lt, eX, k_3] at c_6
          refine g_aload_n (i := 0) rfl rfl ?_
          refine g_bipush (n := (-6)) rfl ?_
          omega
        · skip
          rw [i_lt, eX, k_3] at c_6
          refine g_iload_n (i := 3) rfl rfl ?_
          refine g_bipush (n := 99) rfl ?_
          have k_8 : ((Int8.ofInt 99).toInt32).toInt = 99 := rfl
          refine g_icmp_le 40 rfl rfl (fun c_7 => ?_) (fun c_7 => ?_)
          · skip
            rw [i_le, eX, k_8] at c_7
            refine g_aload_n (i := 0) rfl rfl ?_
            refine g_getfield (v := .ref 66) rfl M.1 (by decide) rfl ?_
            refine g_bipush (n := 6) rfl ?_
            refine g_iload_n (i := 1) rfl rfl ?_
            have k_9 : ((Int8.ofInt 6).toInt32).toInt = 6 := rfl
            refine g_imul rfl ?_
            have t_10 : (((Int8.ofInt 6).toInt32 * (Int32.ofNat i))).toInt = ((6 * i : Nat) : Int) := n_mul (X := 6) (Y := i) (show _ = ((6 : Nat) : Int) from k_9) (show _ = ((i : Nat) : Int) from ei) (by omega)
            refine g_iload_n (i := 2) rfl rfl ?_
            refine g_iadd rfl ?_
            have t_11 : (((Int8.ofInt 6).toInt32 * (Int32.ofNat i)) + (Int32.ofNat V)).toInt = ((6 * i + V : Nat) : Int) := by rw [i_add (by rw [t_10, eV]; omega) (by rw [t_10, eV]; omega), t_10, eV]; omega
            refine g_iaload (n := 30) (f := m.2.2.2.2.2) rfl M.2.2.2.2.2 (i_in (by omega) (by omega)) ?_
            rw [i_nat t_11]
            refine g_istore (i := 4) (L1 := [some (.ref 60), some (.int (Int32.ofNat i)), some (.int (Int32.ofNat V)), some (.int (Int32.ofNat X)), some (.int (m.2.2.2.2.2 (6 * i + V)))]) rfl (Nat.le_of_ble_eq_true rfl) rfl ?_
            refine g_aload_n (i := 0) rfl rfl ?_
            refine g_getfield (v := .ref 66) rfl M.1 (by decide) rfl ?_
            refine g_bipush (n := 6) rfl ?_
            refine g_iload_n (i := 1) rfl rfl ?_
            refine g_imul rfl ?_
            refine g_iload_n (i := 2) rfl rfl ?_
            refine g_iadd rfl ?_
            have t_12 : (((Int8.ofInt 6).toInt32 * (Int32.ofNat i)) + (Int32.ofNat V)).toInt = ((6 * i + V : Nat) : Int) := by rw [i_add (by rw [t_10, eV]; omega) (by rw [t_10, eV]; omega), t_10, eV]; omega
            refine g_iload_n (i := 3) rfl rfl ?_
            refine g_iastore (n := 30) (f := m.2.2.2.2.2) (h1 := h.set 66 (.inl (0, 30, .inl (upd m.2.2.2.2.2 (6 * i + V) (Int32.ofNat X))))) rfl M.2.2.2.2.2 (i_in (by omega) (by omega)) (by rw [i_nat t_12]) ?_
            refine g_iload (i := 4) rfl rfl ?_
            refine g_ireturn (ty := .int) rfl rfl rfl ?_
            exact ⟨rfl, rfl⟩
          · skip
            rw [i_le, eX, k_8] at c_7
            refine g_aload_n (i := 0) rfl rfl ?_
            refine g_bipush (n := (-6)) rfl ?_
            omega
      · skip
        rw [i_le, eV, k_5] at c_4
        refine g_aload_n (i := 0) rfl rfl ?_
        refine g_iconst (n := (-1)) rfl ?_
        omega
  · skip
    omega
theorem s_worths12n {d : Nat} {h : sHp} {R : Nat → Int32} {m : MF} {N : Nat} {x v y : Int32} (hd : 3 ≤ d) (M : MC h m) (hR : h[61]? = some (rFc R)) (hI : m.1 6 = Int32.ofNat N) (hN : N ≤ 5) (hx : ¬ ((0 ≤ x.toInt ∧ x.toInt < (N : Int)) ∧ (0 ≤ v.toInt ∧ v.toInt < 6) ∧ 0 ≤ y.toInt ∧ y.toInt < 100)) : sDo d 208 [.ref 60, .int x, .int v, .int y] h (fun r h' => (¬ ((0 ≤ x.toInt ∧ x.toInt < (N : Int)) ∧ (0 ≤ v.toInt ∧ v.toInt < 6)) ∧ r = some (.int (-1)) ∧ h' = h.set 61 (rFc (bump R 1))) ∨ (((0 ≤ x.toInt ∧ x.toInt < (N : Int)) ∧ (0 ≤ v.toInt ∧ v.toInt < 6)) ∧ r = some (.int (-6)) ∧ h' = h.set 61 (rFc (bump R 6)))) := by
  refine sDo_of1 (nL := 5) (L := [some (.ref 60), some (.int x), some (.int v), some (.int y), none]) (by omega) rfl rfl ?_
  refine g_aload_n (i := 0) rfl rfl ?_
  refine g_iload_n (i := 1) rfl rfl ?_
  refine g_virt1 (Qc := fun r h' => h' = h ∧ (((0 ≤ x.toInt ∧ x.toInt < (N : Int)) ∧ r = some (.int 1)) ∨ (¬ (0 ≤ x.toInt ∧ x.toInt < (N : Int)) ∧ r = some (.int 0)))) rfl (by decide) rfl M.1 rfl (Nat.le_of_ble_eq_true rfl) (s_hr12 (by omega) M.1 hI hN) (fun r h hq9 => ?_)
  obtain ⟨rfl, ⟨c_1, rfl⟩ | ⟨c_1, rfl⟩⟩ := hq9
  · skip
    refine g_if_eq 17 rfl rfl (fun hc => absurd hc (by decide)) (fun _ => ?_)
    refine g_iload_n (i := 2) rfl rfl ?_
    have k_3 : (0 : Int32).toInt = 0 := rfl
    refine g_if_lt 17 rfl rfl (fun c_2 => ?_) (fun c_2 => ?_)
    · skip
      rw [i_lt, k_3] at c_2
      refine g_aload_n (i := 0) rfl rfl ?_
      refine g_iconst (n := (-1)) rfl ?_
      refine g_virt1 (Qc := fun r h' => r = some (.int ((Int32.ofInt (-1)))) ∧ h' = h.set 61 (rFc (bump R 1))) rfl (by decide) rfl M.1 rfl (Nat.le_of_ble_eq_true rfl) (s_no2 (X := 1) (by omega) M.1 hR rfl (by decide)) (fun r h9 hq9 => ?_)
      obtain ⟨rfl, rfl⟩ := hq9
      refine g_ireturn (ty := .int) rfl rfl rfl ?_
      exact Or.inl ⟨by omega, rfl, rfl⟩
    · skip
      rw [i_lt, k_3] at c_2
      refine g_iload_n (i := 2) rfl rfl ?_
      refine g_iconst (n := 5) rfl ?_
      have k_5 : (Int32.ofInt 5).toInt = 5 := rfl
      refine g_icmp_le 23 rfl rfl (fun c_4 => ?_) (fun c_4 => ?_)
      · skip
        rw [i_le, k_5] at c_4
        refine g_iload_n (i := 3) rfl rfl ?_
        refine g_if_lt 33 rfl rfl (fun c_6 => ?_) (fun c_6 => ?_)
        · skip
          rw [i_lt, k_3] at c_6
          refine g_aload_n (i := 0) rfl rfl ?_
          refine g_bipush (n := (-6)) rfl ?_
          refine g_virt1 (Qc := fun r h' => r = some (.int ((Int8.ofInt (-6)).toInt32)) ∧ h' = h.set 61 (rFc (bump R 6))) rfl (by decide) rfl M.1 rfl (Nat.le_of_ble_eq_true rfl) (s_no2 (X := 6) (by omega) M.1 hR rfl (by decide)) (fun r h9 hq9 => ?_)
          obtain ⟨rfl, rfl⟩ := hq9
          refine g_ireturn (ty := .int) rfl rfl rfl ?_
          exact Or.inr ⟨by omega, rfl, rfl⟩
        · skip
          rw [i_lt, k_3] at c_6
          refine g_iload_n (i := 3) rfl rfl ?_
          refine g_bipush (n := 99) rfl ?_
          have k_8 : ((Int8.ofInt 99).toInt32).toInt = 99 := rfl
          refine g_icmp_le 40 rfl rfl (fun c_7 => ?_) (fun c_7 => ?_)
          · skip
            rw [i_le, k_8] at c_7
            exfalso; omega
          · skip
            rw [i_le, k_8] at c_7
            refine g_aload_n (i := 0) rfl rfl ?_
            refine g_bipush (n := (-6)) rfl ?_
            refine g_virt1 (Qc := fun r h' => r = some (.int ((Int8.ofInt (-6)).toInt32)) ∧ h' = h.set 61 (rFc (bump R 6))) rfl (by decide) rfl M.1 rfl (Nat.le_of_ble_eq_true rfl) (s_no2 (X := 6) (by omega) M.1 hR rfl (by decide)) (fun r h9 hq9 => ?_)
            obtain ⟨rfl, rfl⟩ := hq9
            refine g_ireturn (ty := .int) rfl rfl rfl ?_
            exact Or.inr ⟨by omega, rfl, rfl⟩
      · skip
        rw [i_le, k_5] at c_4
        refine g_aload_n (i := 0) rfl rfl ?_
        refine g_iconst (n := (-1)) rfl ?_
        refine g_virt1 (Qc := fun r h' => r = some (.int ((Int32.ofInt (-1)))) ∧ h' = h.set 61 (rFc (bump R 1))) rfl (by decide) rfl M.1 rfl (Nat.le_of_ble_eq_true rfl) (s_no2 (X := 1) (by omega) M.1 hR rfl (by decide)) (fun r h9 hq9 => ?_)
        obtain ⟨rfl, rfl⟩ := hq9
        refine g_ireturn (ty := .int) rfl rfl rfl ?_
        exact Or.inl ⟨by omega, rfl, rfl⟩
  · skip
    refine g_if_eq 17 rfl rfl (fun _ => ?_) (fun hc => absurd hc (by decide))
    refine g_aload_n (i := 0) rfl rfl ?_
    refine g_iconst (n := (-1)) rfl ?_
    refine g_virt1 (Qc := fun r h' => r = some (.int ((Int32.ofInt (-1)))) ∧ h' = h.set 61 (rFc (bump R 1))) rfl (by decide) rfl M.1 rfl (Nat.le_of_ble_eq_true rfl) (s_no2 (X := 1) (by omega) M.1 hR rfl (by decide)) (fun r h9 hq9 => ?_)
    obtain ⟨rfl, rfl⟩ := hq9
    refine g_ireturn (ty := .int) rfl rfl rfl ?_
    exact Or.inl ⟨by omega, rfl, rfl⟩
end
section
/-! ===== fond; pairs of soil, worths, fond ===== -/
theorem s_fond11 {d : Nat} {h : sHp} {ik tf : Int32} {c : CF} {N i : Nat} {b : Int32} (hd : 3 ≤ d) (h0 : h[0]? = some (cO ik tf)) (F : FC h 5 c) (hI : c.1 11 = Int32.ofNat N) (hN : N ≤ 5) (hi : i < N) (hb : b = 0 ∨ b = 1) : sDo d 129 [.ref 0, .int (Int32.ofNat i), .int b] h (fun r h' => ((c.2.2.2.2.2.1 i = b ∧ r = some (.int 0)) ∨ (¬ c.2.2.2.2.2.1 i = b ∧ r = some (.int 1))) ∧ h' = h.set 14 (.inl (2, 5, .inl (upd c.2.2.2.2.2.1 i b)))) := by
  have ei := ofN_toInt (n := i) (by omega)
  refine sDo_of1 (nL := 4) (L := [some (.ref 0), some (.int (Int32.ofNat i)), some (.int b), none]) (by omega) rfl rfl ?_
  refine g_aload_n (i := 0) rfl rfl ?_
  refine g_getfield (v := .ref 5) rfl h0 (by decide) rfl ?_
  refine g_iload_n (i := 1) rfl rfl ?_
  refine g_virt1 (Qc := fun r h' => h' = h ∧ (((0 ≤ (Int32.ofNat i).toInt ∧ (Int32.ofNat i).toInt < (N : Int)) ∧ r = some (.int 1)) ∨ (¬ (0 ≤ (Int32.ofNat i).toInt ∧ (Int32.ofNat i).toInt < (N : Int)) ∧ r = some (.int 0)))) rfl (by decide) rfl F.1 rfl (Nat.le_of_ble_eq_true rfl) (s_hr11 (by omega) F hI hN) (fun r h hq9 => ?_)
  obtain ⟨rfl, ⟨c_1, rfl⟩ | ⟨c_1, rfl⟩⟩ := hq9
  · skip
    refine g_if_ne 17 rfl rfl (fun _ => ?_) (fun hc => absurd hc (by decide))
    refine g_aload_n (i := 0) rfl rfl ?_
    refine g_getfield (v := .ref 5) rfl h0 (by decide) rfl ?_
    refine g_getfield (v := .ref (5 + 9)) rfl F.1 (by decide) rfl ?_
    refine g_iload_n (i := 1) rfl rfl ?_
    refine g_baload (n := 5) (f := c.2.2.2.2.2.1) rfl F.2.2.2.2.2.1 (i_in (by omega) (by omega)) ?_
    rw [i_nat ei]
    refine g_istore_n (i := 3) (L1 := [some (.ref 0), some (.int (Int32.ofNat i)), some (.int b), some (.int (c.2.2.2.2.2.1 i))]) rfl (Nat.le_of_ble_eq_true rfl) rfl ?_
    refine g_aload_n (i := 0) rfl rfl ?_
    refine g_getfield (v := .ref 5) rfl h0 (by decide) rfl ?_
    refine g_getfield (v := .ref (5 + 9)) rfl F.1 (by decide) rfl ?_
    refine g_iload_n (i := 1) rfl rfl ?_
    refine g_iload_n (i := 2) rfl rfl ?_
    refine g_bastore (h1 := h.set 14 (.inl (2, 5, .inl (upd c.2.2.2.2.2.1 i b)))) rfl F.2.2.2.2.2.1 hb (i_in (by omega) (by omega)) (by rw [i_nat ei]) ?_
    refine g_iload_n (i := 3) rfl rfl ?_
    refine g_iload_n (i := 2) rfl rfl ?_
    refine g_icmp_ne 46 rfl rfl (fun c_2 => ?_) (fun c_2 => ?_)
    · skip
      rw [i_eq] at c_2
      refine g_iconst (n := 1) rfl ?_
      refine g_ireturn (ty := .int) rfl rfl rfl ?_
      exact ⟨Or.inr ⟨fun z => c_2 (by rw [z]), rfl⟩, rfl⟩
    · skip
      rw [i_eq] at c_2
      refine g_iconst (n := 0) rfl ?_
      refine g_goto 47 rfl rfl ?_
      refine g_ireturn (ty := .int) rfl rfl rfl ?_
      exact ⟨Or.inl ⟨Int32.toInt_inj.mp c_2, rfl⟩, rfl⟩
  · skip
    omega
theorem s_fond11n {d : Nat} {h : sHp} {ik tf : Int32} {R : Nat → Int32} {c : CF} {N : Nat} {x b : Int32} (hd : 3 ≤ d) (h0 : h[0]? = some (cO ik tf)) (hR : h[43]? = some (rFc R)) (F : FC h 5 c) (hI : c.1 11 = Int32.ofNat N) (hN : N ≤ 5) (hx : ¬ (0 ≤ x.toInt ∧ x.toInt < (N : Int))) : sDo d 129 [.ref 0, .int x, .int b] h (fun r h' => r = some (.int (-1)) ∧ h' = h.set 43 (rFc (bump R 1))) := by
  refine sDo_of1 (nL := 4) (L := [some (.ref 0), some (.int x), some (.int b), none]) (by omega) rfl rfl ?_
  refine g_aload_n (i := 0) rfl rfl ?_
  refine g_getfield (v := .ref 5) rfl h0 (by decide) rfl ?_
  refine g_iload_n (i := 1) rfl rfl ?_
  refine g_virt1 (Qc := fun r h' => h' = h ∧ (((0 ≤ x.toInt ∧ x.toInt < (N : Int)) ∧ r = some (.int 1)) ∨ (¬ (0 ≤ x.toInt ∧ x.toInt < (N : Int)) ∧ r = some (.int 0)))) rfl (by decide) rfl F.1 rfl (Nat.le_of_ble_eq_true rfl) (s_hr11 (by omega) F hI hN) (fun r h hq9 => ?_)
  obtain ⟨rfl, ⟨c_1, rfl⟩ | ⟨c_1, rfl⟩⟩ := hq9
  · skip
    omega
  · skip
    refine g_if_ne 17 rfl rfl (fun hc => absurd hc (by decide)) (fun _ => ?_)
    refine g_aload_n (i := 0) rfl rfl ?_
    refine g_iconst (n := (-1)) rfl ?_
    refine g_virt1 (Qc := fun r h' => r = some (.int ((Int32.ofInt (-1)))) ∧ h' = h.set 43 (rFc (bump R 1))) rfl (by decide) rfl h0 rfl (Nat.le_of_ble_eq_true rfl) (s_refuse2 (X := 1) (by omega) h0 hR rfl (by decide)) (fun r h9 hq9 => ?_)
    obtain ⟨rfl, rfl⟩ := hq9
    refine g_ireturn (ty := .int) rfl rfl rfl ?_
    exact ⟨rfl, rfl⟩
theorem s_fond12 {d : Nat} {h : sHp} {m : MF} {N i : Nat} {b : Int32} (hd : 3 ≤ d) (M : MC h m) (hI : m.1 6 = Int32.ofNat N) (hN : N ≤ 5) (hi : i < N) (hb : b = 0 ∨ b = 1) : sDo d 209 [.ref 60, .int (Int32.ofNat i), .int b] h (fun r h' => (m.2.2.2.2.1 i = b ∧ r = some (.int 0) ∧ h' = h) ∨ (¬ m.2.2.2.2.1 i = b ∧ r = some (.int 1) ∧ h' = h.set 65 (.inl (0, 5, .inl (upd m.2.2.2.2.1 i b))))) := by
  have ei := ofN_toInt (n := i) (by omega)
  rcases hb with rfl | rfl
  · refine sDo_of1 (nL := 4) (L := [some (.ref 60), some (.int (Int32.ofNat i)), some (.int 0), none]) (by omega) rfl rfl ?_
    refine g_aload_n (i := 0) rfl rfl ?_
    refine g_iload_n (i := 1) rfl rfl ?_
    refine g_virt1 (Qc := fun r h' => h' = h ∧ (((0 ≤ (Int32.ofNat i).toInt ∧ (Int32.ofNat i).toInt < (N : Int)) ∧ r = some (.int 1)) ∨ (¬ (0 ≤ (Int32.ofNat i).toInt ∧ (Int32.ofNat i).toInt < (N : Int)) ∧ r = some (.int 0)))) rfl (by decide) rfl M.1 rfl (Nat.le_of_ble_eq_true rfl) (s_hr12 (by omega) M.1 hI hN) (fun r h hq9 => ?_)
    obtain ⟨rfl, ⟨c_1, rfl⟩ | ⟨c_1, rfl⟩⟩ := hq9
    · skip
      refine g_if_ne 14 rfl rfl (fun _ => ?_) (fun hc => absurd hc (by decide))
      refine g_iload_n (i := 2) rfl rfl ?_
      refine g_if_eq 22 rfl rfl (fun _ => ?_) (fun hc => absurd hc (by decide))
      refine g_iconst (n := 0) rfl ?_
      refine g_istore_n (i := 3) (L1 := [some (.ref 60), some (.int (Int32.ofNat i)), some (.int 0), some (.int (Int32.ofInt 0))]) rfl (Nat.le_of_ble_eq_true rfl) rfl ?_
      refine g_aload_n (i := 0) rfl rfl ?_
      refine g_getfield (v := .ref 65) rfl M.1 (by decide) rfl ?_
      refine g_iload_n (i := 1) rfl rfl ?_
      refine g_iaload (n := 5) (f := m.2.2.2.2.1) rfl M.2.2.2.2.1 (i_in (by omega) (by omega)) ?_
      rw [i_nat ei]
      refine g_iload_n (i := 3) rfl rfl ?_
      have k_3 : (Int32.ofInt 0).toInt = 0 := rfl
      refine g_icmp_ne 36 rfl rfl (fun c_2 => ?_) (fun c_2 => ?_)
      · skip
        rw [i_eq, k_3] at c_2
        refine g_aload_n (i := 0) rfl rfl ?_
        refine g_getfield (v := .ref 65) rfl M.1 (by decide) rfl ?_
        refine g_iload_n (i := 1) rfl rfl ?_
        refine g_iload_n (i := 3) rfl rfl ?_
        refine g_iastore (n := 5) (f := m.2.2.2.2.1) (h1 := h.set 65 (.inl (0, 5, .inl (upd m.2.2.2.2.1 i 0)))) rfl M.2.2.2.2.1 (i_in (by omega) (by omega)) (by rw [i_nat ei]; rfl) ?_
        refine g_iconst (n := 1) rfl ?_
        refine g_ireturn (ty := .int) rfl rfl rfl ?_
        exact Or.inr ⟨fun z => c_2 (by rw [z]; rfl), rfl, rfl⟩
      · skip
        rw [i_eq, k_3] at c_2
        refine g_iconst (n := 0) rfl ?_
        refine g_ireturn (ty := .int) rfl rfl rfl ?_
        exact Or.inl ⟨Int32.toInt_inj.mp (c_2.trans (show (0 : Int) = ((0 : Int32)).toInt from rfl)), rfl, rfl⟩
    · skip
      omega
  · refine sDo_of1 (nL := 4) (L := [some (.ref 60), some (.int (Int32.ofNat i)), some (.int 1), none]) (by omega) rfl rfl ?_
    refine g_aload_n (i := 0) rfl rfl ?_
    refine g_iload_n (i := 1) rfl rfl ?_
    refine g_virt1 (Qc := fun r h' => h' = h ∧ (((0 ≤ (Int32.ofNat i).toInt ∧ (Int32.ofNat i).toInt < (N : Int)) ∧ r = some (.int 1)) ∨ (¬ (0 ≤ (Int32.ofNat i).toInt ∧ (Int32.ofNat i).toInt < (N : Int)) ∧ r = some (.int 0)))) rfl (by decide) rfl M.1 rfl (Nat.le_of_ble_eq_true rfl) (s_hr12 (by omega) M.1 hI hN) (fun r h hq9 => ?_)
    obtain ⟨rfl, ⟨c_1, rfl⟩ | ⟨c_1, rfl⟩⟩ := hq9
    · skip
      refine g_if_ne 14 rfl rfl (fun _ => ?_) (fun hc => absurd hc (by decide))
      refine g_iload_n (i := 2) rfl rfl ?_
      refine g_if_eq 22 rfl rfl (fun hc => absurd hc (by decide)) (fun _ => ?_)
      refine g_iconst (n := 1) rfl ?_
      refine g_goto 23 rfl rfl ?_
      refine g_istore_n (i := 3) (L1 := [some (.ref 60), some (.int (Int32.ofNat i)), some (.int 1), some (.int (Int32.ofInt 1))]) rfl (Nat.le_of_ble_eq_true rfl) rfl ?_
      refine g_aload_n (i := 0) rfl rfl ?_
      refine g_getfield (v := .ref 65) rfl M.1 (by decide) rfl ?_
      refine g_iload_n (i := 1) rfl rfl ?_
      refine g_iaload (n := 5) (f := m.2.2.2.2.1) rfl M.2.2.2.2.1 (i_in (by omega) (by omega)) ?_
      rw [i_nat ei]
      refine g_iload_n (i := 3) rfl rfl ?_
      have k_3 : (Int32.ofInt 1).toInt = 1 := rfl
      refine g_icmp_ne 36 rfl rfl (fun c_2 => ?_) (fun c_2 => ?_)
      · skip
        rw [i_eq, k_3] at c_2
        refine g_aload_n (i := 0) rfl rfl ?_
        refine g_getfield (v := .ref 65) rfl M.1 (by decide) rfl ?_
        refine g_iload_n (i := 1) rfl rfl ?_
        refine g_iload_n (i := 3) rfl rfl ?_
        refine g_iastore (n := 5) (f := m.2.2.2.2.1) (h1 := h.set 65 (.inl (0, 5, .inl (upd m.2.2.2.2.1 i 1)))) rfl M.2.2.2.2.1 (i_in (by omega) (by omega)) (by rw [i_nat ei]; rfl) ?_
        refine g_iconst (n := 1) rfl ?_
        refine g_ireturn (ty := .int) rfl rfl rfl ?_
        exact Or.inr ⟨fun z => c_2 (by rw [z]; rfl), rfl, rfl⟩
      · skip
        rw [i_eq, k_3] at c_2
        refine g_iconst (n := 0) rfl ?_
        refine g_ireturn (ty := .int) rfl rfl rfl ?_
        exact Or.inl ⟨Int32.toInt_inj.mp (c_2.trans (show (1 : Int) = ((1 : Int32)).toInt from rfl)), rfl, rfl⟩
    · skip
      omega
theorem s_fond12n {d : Nat} {h : sHp} {R : Nat → Int32} {m : MF} {N : Nat} {x b : Int32} (hd : 3 ≤ d) (M : MC h m) (hR : h[61]? = some (rFc R)) (hI : m.1 6 = Int32.ofNat N) (hN : N ≤ 5) (hx : ¬ (0 ≤ x.toInt ∧ x.toInt < (N : Int))) : sDo d 209 [.ref 60, .int x, .int b] h (fun r h' => r = some (.int (-1)) ∧ h' = h.set 61 (rFc (bump R 1))) := by
  refine sDo_of1 (nL := 4) (L := [some (.ref 60), some (.int x), some (.int b), none]) (by omega) rfl rfl ?_
  refine g_aload_n (i := 0) rfl rfl ?_
  refine g_iload_n (i := 1) rfl rfl ?_
  refine g_virt1 (Qc := fun r h' => h' = h ∧ (((0 ≤ x.toInt ∧ x.toInt < (N : Int)) ∧ r = some (.int 1)) ∨ (¬ (0 ≤ x.toInt ∧ x.toInt < (N : Int)) ∧ r = some (.int 0)))) rfl (by decide) rfl M.1 rfl (Nat.le_of_ble_eq_true rfl) (s_hr12 (by omega) M.1 hI hN) (fun r h hq9 => ?_)
  obtain ⟨rfl, ⟨c_1, rfl⟩ | ⟨c_1, rfl⟩⟩ := hq9
  · skip
    omega
  · skip
    refine g_if_ne 14 rfl rfl (fun hc => absurd hc (by decide)) (fun _ => ?_)
    refine g_aload_n (i := 0) rfl rfl ?_
    refine g_iconst (n := (-1)) rfl ?_
    refine g_virt1 (Qc := fun r h' => r = some (.int ((Int32.ofInt (-1)))) ∧ h' = h.set 61 (rFc (bump R 1))) rfl (by decide) rfl M.1 rfl (Nat.le_of_ble_eq_true rfl) (s_no2 (X := 1) (by omega) M.1 hR rfl (by decide)) (fun r h9 hq9 => ?_)
    obtain ⟨rfl, rfl⟩ := hq9
    refine g_ireturn (ty := .int) rfl rfl rfl ?_
    exact ⟨rfl, rfl⟩
theorem one_set {c : CF} {W H q : Nat} (g : gdF c W H) (hq : q < W * H) : (lowS (Int32.ofNat (q + 1)) &&& c.2.1 2) &&& ((lowS (Int32.ofNat q) &&& c.2.1 2) ^^^ Int64.ofNat 18446744073709551615) = (Int64.ofNat 1 <<< ((Int32.ofNat q).toInt64 &&& 63)) := by
  have hn := gdF_n g
  have g2 : c.2.1 2 = stO (fun _ => true) (W * H) := g.2.2.2.2.2.2.1
  refine bt_ext (fun i hi => ?_)
  show bt ((lowS (Int32.ofNat (q + 1)) &&& c.2.1 2) &&& ((lowS (Int32.ofNat q) &&& c.2.1 2) ^^^ lM1)) i = _
  rw [bt_and, bt_and, bt_not, bt_and, g2, bt_stO _ _ hn.1, bt_low2 (by omega) hi, bt_low2 (by omega) hi, bt_one (by omega), decide_eq_true hi, Bool.true_and, Bool.and_true]
  by_cases w : i = q
  · rw [decide_eq_true w, decide_eq_true (show i < q + 1 by omega), decide_eq_true (show i < W * H by omega), decide_eq_false (show ¬ i < q by omega)]; rfl
  · rw [decide_eq_false w]
    by_cases w2 : i < q
    · rw [decide_eq_true w2, decide_eq_true (show i < W * H by omega)]
      simp
    · rw [decide_eq_false (show ¬ i < q + 1 by omega), Bool.false_and, Bool.false_and]
theorem vZ0 {h : sHp} {b : Int32} (hb : b = 0 ∨ b = 1) : bT h (.inl (.ofNat 0, .ofNat 1)) (.int b) := ⟨b, rfl, by rcases hb with rfl | rfl <;> decide, by rcases hb with rfl | rfl <;> decide⟩
/-- FOND told anew -/
def relFo (Rel : CF → MF → Prop) : Prop := ∀ (c : CF) (m : MF) (s : Sg) (i : Nat) (b : Int32), Rel c m → sgI c s → i < s.2.2 → (b = 0 ∨ b = 1) → Rel (c.1, c.2.1, c.2.2.1, c.2.2.2.1, c.2.2.2.2.1, upd c.2.2.2.2.2.1 i b, c.2.2.2.2.2.2) (m.1, m.2.1, m.2.2.1, m.2.2.2.1, upd m.2.2.2.2.1 i b, m.2.2.2.2.2)
theorem RB_fo : relFo RB := fun c m s i b r q hi hb => by
  refine RB_mk (s := s) (RN_J (m' := (m.1, m.2.1, m.2.2.1, m.2.2.2.1, upd m.2.2.2.2.1 i b, m.2.2.2.2.2)) (RN_C (c' := (c.1, c.2.1, c.2.2.1, c.2.2.2.1, c.2.2.2.2.1, upd c.2.2.2.2.2.1 i b, c.2.2.2.2.2.2)) r.1 (fun _ _ => rfl) (fun _ _ _ => rfl)) (fun _ _ => rfl)) q ?_ (r.2 s q).2
  obtain ⟨r1, r2, r3, r4, r5⟩ := (r.2 s q).1
  refine ⟨r1, r2, fun k hk => ⟨(r3 k hk).1, ?_⟩, r4, fun k hk => ⟨(r5 k hk).1, ?_, (r5 k hk).2.2⟩⟩
  rotate_left
  · show upd m.2.2.2.2.1 i b k = 0 ∨ upd m.2.2.2.2.1 i b k = 1
    by_cases w : k = i
    · rw [w, u_at]; exact hb
    · rw [u_ne w]; exact (r5 k hk).2.1
  show upd c.2.2.2.2.2.1 i b k = upd m.2.2.2.2.1 i b k
  by_cases w : k = i
  · rw [w, u_at, u_at]
  · rw [u_ne w, u_ne w]; exact (r3 k hk).2
theorem pk_soil {Rel : CF → MF → Prop} (ok : relOk Rel) (hB : ∀ c m, Rel c m → RB c m) (x : Int32) (v : Int32) : pairR (bFL Rel) 125 205 [.int x, .int v] := pr_mk (c1 := cn_X11_soil_0) (c2 := cn_X12_soil_0) ch_X11_soil_0 ch_X12_soil_0 (by decide +kernel) (by decide +kernel) (by decide +kernel) (by decide +kernel) rfl rfl (fun h hH => ⟨bt0 hH, vI0 x, vI0 v, trivial⟩) (fun h hH => ⟨bt60 hH, vI0 x, vI0 v, trivial⟩) (fun h hH hR => by
  obtain ⟨c, ck, m, g, ik, tf, kc, km, ej, rl, rk⟩ := hR
  have F := kc.1
  have q0 := kc.2.2.1
  obtain ⟨Rc, hRc⟩ := RA_of hH (p := 43) (Or.inl rfl)
  obtain ⟨s, sI, sJ, gF, gM⟩ := RN_sg (ok.2.2.2.2.1 _ _ rl)
  have hn := gdF_n gF
  by_cases hx : (0 ≤ x.toInt ∧ x.toInt < ((s.1 * s.2.1 : Nat) : Int)) ∧ 0 ≤ v.toInt ∧ v.toInt < 6
  · have RS := ((hB _ _ rl).2 s sI).1
    obtain ⟨q, hq⟩ : ∃ q : Nat, x.toInt = q := ⟨x.toInt.toNat, by omega⟩
    have e_x : x = Int32.ofNat q := Int32.toInt_inj.mp (by rw [hq, ofN_toInt (by omega)])
    subst e_x
    obtain ⟨V, hV⟩ : ∃ V : Nat, v.toInt = V := ⟨v.toInt.toNat, by omega⟩
    have e_v : v = Int32.ofNat V := Int32.toInt_inj.mp (by rw [hV, ofN_toInt (by omega)])
    subst e_v
    obtain ⟨U, hU, eU⟩ := RS.2.1 q (by omega)
    have hb : ∀ u, u < 6 → bt (c.2.2.1 u) q = decide (u = U) := fun u hu => by
      rw [RS.1 u hu, bt_stO _ _ hn.1, decide_eq_true (show q < s.1 * s.2.1 by omega), Bool.true_and, eU]
      exact decide_eq_decide.mpr ⟨fun z => (ofN_inj (by omega) (by omega) z).symm, fun z => by rw [z]⟩
    refine sDo_mono (s_soil11 (d := 10) (W := s.1) (H := s.2.1) (q := q) (V := V) (U := U) (by omega) q0 hRc F gF (by omega) hU (by omega) hb) (fun r1 h1 p1 hH1 fr1 => ?_)
    obtain ⟨rfl, rfl⟩ := p1
    have F1 := FC_1 (so := giveS c.2.2.1 6 (Int64.ofNat 1 <<< ((Int32.ofNat q).toInt64 &&& 63)) V) F
    have E1 : fE 5 h (h.set 6 (.inl (1, 6, .inr (.inl (giveS c.2.2.1 6 (Int64.ofNat 1 <<< ((Int32.ofNat q).toInt64 &&& 63)) V))))) := fE_set fE_rfl (by decide) (by decide)
    have km1 := kM_fE km E1
    refine sDo_mono (s_soil12 (d := 10) (W := s.1) (H := s.2.1) (q := q) (V := V) (by omega) km1.1 gM (by omega) (by omega)) (fun r2 h2 p hH2 fr2 => ?_)
    obtain ⟨rfl, rfl⟩ := p
    have M2 := MC_1 (f := upd m.2.1 q (Int32.ofNat V)) km1.1
    have E2 := mE_set (q := 62) (x := .inl (0, 64, .inl (upd m.2.1 q (Int32.ofNat V)))) (mE_rfl (h := h.set 6 (.inl (1, 6, .inr (.inl (giveS c.2.2.1 6 (Int64.ofNat 1 <<< ((Int32.ofNat q).toInt64 &&& 63)) V)))))) (by decide)
    have rl2 := ok.2.1 c m s (1, V, q, q) rl sI sJ ⟨by omega, Nat.le_refl q, by omega⟩
    have e1 : cfDo c (1, V, q, q) = (c.1, c.2.1, giveS c.2.2.1 6 (Int64.ofNat 1 <<< ((Int32.ofNat q).toInt64 &&& 63)) V, c.2.2.2) := by
      show (c.1, c.2.1, giveS c.2.2.1 6 ((lowS (Int32.ofNat (q + 1)) &&& c.2.1 2) &&& ((lowS (Int32.ofNat q) &&& c.2.1 2) ^^^ Int64.ofNat 18446744073709551615)) V, c.2.2.2) = _
      rw [one_set gF (by omega)]
    have e2 : mfDo m (1, V, q, q) = (m.1, upd m.2.1 q (Int32.ofNat V), m.2.2) := by
      show (m.1, (fun i => if q ≤ i ∧ i ≤ q then Int32.ofNat V else m.2.1 i), m.2.2) = _
      rw [show (fun i => if q ≤ i ∧ i ≤ q then Int32.ofNat V else m.2.1 i) = upd m.2.1 q (Int32.ofNat V) from funext fun i => by
        unfold upd
        by_cases e : i = q
        · rw [if_pos (show q ≤ i ∧ i ≤ q by omega), if_pos e]
        · rw [if_neg (show ¬ (q ≤ i ∧ i ≤ q) by omega), if_neg e]]
    rw [e1, e2] at rl2
    exact ⟨⟨_, ck, _, g, ik, tf, kC_mE (kC_5 kc F1 E1) E2, ⟨M2, (E2.2 75 (by decide) (by decide)).trans km1.2⟩, ej, rl2, rk⟩, _, rfl, congrArg (fun z => some (Value.int z)) eU⟩
  · refine sDo_mono (s_soil11n (d := 10) (x := x) (v := v) (by omega) q0 hRc F gF hx) (fun r1 h1 p1 hH1 fr1 => ?_)
    obtain ⟨rfl, rfl⟩ := p1
    obtain ⟨Rm, hRm⟩ := RA_of hH1 (p := 61) (Or.inr rfl)
    refine sDo_mono (s_soil12n (d := 10) (x := x) (v := v) (by omega) (kM_43 km).1 hRm gM hx) (fun r2 h2 p hH2 fr2 => ?_)
    obtain ⟨rfl, rfl⟩ := p
    exact ⟨⟨c, ck, m, g, ik, tf, kC_61 (kC_43 kc), kM_61 (kM_43 km), ej, rl, rk⟩, _, rfl, rfl⟩)
theorem pk_worths {Rel : CF → MF → Prop} (ok : relOk Rel) (hB : ∀ c m, Rel c m → RB c m) (x : Int32) (v : Int32) (y : Int32) : pairR (bFL Rel) 128 208 [.int x, .int v, .int y] := pr_mk (c1 := cn_X11_worths_0) (c2 := cn_X12_worths_0) ch_X11_worths_0 ch_X12_worths_0 (by decide +kernel) (by decide +kernel) (by decide +kernel) (by decide +kernel) rfl rfl (fun h hH => ⟨bt0 hH, vI0 x, vI0 v, vI0 y, trivial⟩) (fun h hH => ⟨bt60 hH, vI0 x, vI0 v, vI0 y, trivial⟩) (fun h hH hR => by
  obtain ⟨c, ck, m, g, ik, tf, kc, km, ej, rl, rk⟩ := hR
  have F := kc.1
  have q0 := kc.2.2.1
  obtain ⟨Rc, hRc⟩ := RA_of hH (p := 43) (Or.inl rfl)
  obtain ⟨s, sI, sJ, gF, gM⟩ := RN_sg (ok.2.2.2.2.1 _ _ rl)
  by_cases hx : (0 ≤ x.toInt ∧ x.toInt < (s.2.2 : Int)) ∧ (0 ≤ v.toInt ∧ v.toInt < 6) ∧ 0 ≤ y.toInt ∧ y.toInt < 100
  · have RS := ((hB _ _ rl).2 s sI).1
    have n5 := sI.2.2.2.2.2.2.2
    obtain ⟨i, hi⟩ : ∃ i : Nat, x.toInt = i := ⟨x.toInt.toNat, by omega⟩
    have e_x : x = Int32.ofNat i := Int32.toInt_inj.mp (by rw [hi, ofN_toInt (by omega)])
    subst e_x
    obtain ⟨V, hV⟩ : ∃ V : Nat, v.toInt = V := ⟨v.toInt.toNat, by omega⟩
    have e_v : v = Int32.ofNat V := Int32.toInt_inj.mp (by rw [hV, ofN_toInt (by omega)])
    subst e_v
    obtain ⟨X, hX⟩ : ∃ X : Nat, y.toInt = X := ⟨y.toInt.toNat, by omega⟩
    have e_y : y = Int32.ofNat X := Int32.toInt_inj.mp (by rw [hX, ofN_toInt (by omega)])
    subst e_y
    refine sDo_mono (s_worths11 (d := 10) (N := s.2.2) (i := i) (V := V) (X := X) (by omega) q0 F sI.2.2.1 n5 (by omega) (by omega) (by omega)) (fun r1 h1 p1 hH1 fr1 => ?_)
    obtain ⟨rfl, rfl⟩ := p1
    have F1 := FC_4 (k0 := i) (w := upd (c.2.2.2.2.1 i) V (Int32.ofNat X)) F (by omega)
    have E1 : fE 5 h (h.set (5 + 4 + i) (.inl (0, 6, .inl (upd (c.2.2.2.2.1 i) V (Int32.ofNat X))))) := fE_set fE_rfl (by omega) (by omega)
    have km1 := kM_fE km E1
    refine sDo_mono (s_worths12 (d := 10) (N := s.2.2) (i := i) (V := V) (X := X) (by omega) km1.1 sJ.2.2.1 n5 (by omega) (by omega) (by omega)) (fun r2 h2 p hH2 fr2 => ?_)
    obtain ⟨rfl, rfl⟩ := p
    have M2 := MC_5 (f := upd m.2.2.2.2.2 (6 * i + V) (Int32.ofNat X)) km1.1
    have E2 := mE_set (q := 66) (x := .inl (0, 30, .inl (upd m.2.2.2.2.2 (6 * i + V) (Int32.ofNat X)))) (mE_rfl (h := h.set (5 + 4 + i) (.inl (0, 6, .inl (upd (c.2.2.2.2.1 i) V (Int32.ofNat X)))))) (by decide)
    have rl2 := ok.2.1 c m s (4, i, V, X) rl sI sJ ⟨by omega, by omega, by omega⟩
    exact ⟨⟨_, ck, _, g, ik, tf, kC_mE (kC_5 kc F1 E1) E2, ⟨M2, (E2.2 75 (by decide) (by decide)).trans km1.2⟩, ej, rl2, rk⟩, _, rfl, congrArg (fun z => some (Value.int z)) (RS.2.2.2.1 i (by omega) V (by omega)).symm⟩
  · refine sDo_mono (s_worths11n (d := 10) (x := x) (v := v) (y := y) (by omega) q0 hRc F sI.2.2.1 sI.2.2.2.2.2.2.2 hx) (fun r1 h1 p1 hH1 fr1 => ?_)
    obtain ⟨Rm, hRm⟩ := RA_of hH1 (p := 61) (Or.inr rfl)
    rcases p1 with ⟨k1, rfl, rfl⟩ | ⟨k1, rfl, rfl⟩
    · refine sDo_mono (s_worths12n (d := 10) (x := x) (v := v) (y := y) (by omega) (kM_43 km).1 hRm sJ.2.2.1 sJ.2.2.2.2.2.2.2 hx) (fun r2 h2 p hH2 fr2 => ?_)
      rcases p with ⟨-, rfl, rfl⟩ | ⟨k2, -⟩
      · exact ⟨⟨c, ck, m, g, ik, tf, kC_61 (kC_43 kc), kM_61 (kM_43 km), ej, rl, rk⟩, _, rfl, rfl⟩
      · exact absurd k2 k1
    · refine sDo_mono (s_worths12n (d := 10) (x := x) (v := v) (y := y) (by omega) (kM_43 km).1 hRm sJ.2.2.1 sJ.2.2.2.2.2.2.2 hx) (fun r2 h2 p hH2 fr2 => ?_)
      rcases p with ⟨k2, -⟩ | ⟨-, rfl, rfl⟩
      · exact absurd k1 k2
      · exact ⟨⟨c, ck, m, g, ik, tf, kC_61 (kC_43 kc), kM_61 (kM_43 km), ej, rl, rk⟩, _, rfl, rfl⟩)
theorem pk_fond {Rel : CF → MF → Prop} (ok : relOk Rel) (hB : ∀ c m, Rel c m → RB c m) (hF : relFo Rel) (x : Int32) (b : Int32) (hb : b = 0 ∨ b = 1) : pairR (bFL Rel) 129 209 [.int x, .int b] := pr_mk (c1 := cn_X11_fond_0) (c2 := cn_X12_fond_0) ch_X11_fond_0 ch_X12_fond_0 (by decide +kernel) (by decide +kernel) (by decide +kernel) (by decide +kernel) rfl rfl (fun h hH => ⟨bt0 hH, vI0 x, vZ0 hb, trivial⟩) (fun h hH => ⟨bt60 hH, vI0 x, vZ0 hb, trivial⟩) (fun h hH hR => by
  obtain ⟨c, ck, m, g, ik, tf, kc, km, ej, rl, rk⟩ := hR
  have F := kc.1
  have q0 := kc.2.2.1
  obtain ⟨Rc, hRc⟩ := RA_of hH (p := 43) (Or.inl rfl)
  obtain ⟨s, sI, sJ, gF, gM⟩ := RN_sg (ok.2.2.2.2.1 _ _ rl)
  by_cases hx : 0 ≤ x.toInt ∧ x.toInt < (s.2.2 : Int)
  · have RS := ((hB _ _ rl).2 s sI).1
    have n5 := sI.2.2.2.2.2.2.2
    obtain ⟨i, hi⟩ : ∃ i : Nat, x.toInt = i := ⟨x.toInt.toNat, by omega⟩
    have e_x : x = Int32.ofNat i := Int32.toInt_inj.mp (by rw [hi, ofN_toInt (by omega)])
    subst e_x
    refine sDo_mono (s_fond11 (d := 10) (N := s.2.2) (i := i) (b := b) (by omega) q0 F sI.2.2.1 n5 (by omega) hb) (fun r1 h1 p1 hH1 fr1 => ?_)
    obtain ⟨p1, rfl⟩ := p1
    have F1 := FC_9 (fo := upd c.2.2.2.2.2.1 i b) F
    have E1 : fE 5 h (h.set 14 (.inl (2, 5, .inl (upd c.2.2.2.2.2.1 i b)))) := fE_set fE_rfl (by decide) (by decide)
    have km1 := kM_fE km E1
    have rl2 := hF c m s i b rl sI (by omega) hb
    have ef := (RS.2.2.1 i (by omega)).2
    refine sDo_mono (s_fond12 (d := 10) (N := s.2.2) (i := i) (b := b) (by omega) km1.1 sJ.2.2.1 n5 (by omega) hb) (fun r2 h2 p hH2 fr2 => ?_)
    rcases p with ⟨k2, rfl, rfl⟩ | ⟨k2, rfl, rfl⟩
    · rcases p1 with ⟨-, rfl⟩ | ⟨k1, -⟩
      · have e2 : upd m.2.2.2.2.1 i b = m.2.2.2.2.1 := funext fun j => by
          by_cases w : j = i
          · rw [w, u_at, k2]
          · rw [u_ne w]
        rw [e2] at rl2
        exact ⟨⟨_, ck, m, g, ik, tf, kC_5 kc F1 E1, km1, ej, rl2, rk⟩, _, rfl, rfl⟩
      · exact absurd (ef.trans k2) k1
    · rcases p1 with ⟨k1, -⟩ | ⟨-, rfl⟩
      · exact absurd (ef.symm.trans k1) k2
      · have M2 := MC_4 (f := upd m.2.2.2.2.1 i b) km1.1
        have E2 := mE_set (q := 65) (x := .inl (0, 5, .inl (upd m.2.2.2.2.1 i b))) (mE_rfl (h := h.set 14 (.inl (2, 5, .inl (upd c.2.2.2.2.2.1 i b))))) (by decide)
        exact ⟨⟨_, ck, _, g, ik, tf, kC_mE (kC_5 kc F1 E1) E2, ⟨M2, (E2.2 75 (by decide) (by decide)).trans km1.2⟩, ej, rl2, rk⟩, _, rfl, rfl⟩
  · refine sDo_mono (s_fond11n (d := 10) (x := x) (b := b) (by omega) q0 hRc F sI.2.2.1 sI.2.2.2.2.2.2.2 hx) (fun r1 h1 p1 hH1 fr1 => ?_)
    obtain ⟨rfl, rfl⟩ := p1
    obtain ⟨Rm, hRm⟩ := RA_of hH1 (p := 61) (Or.inr rfl)
    refine sDo_mono (s_fond12n (d := 10) (x := x) (b := b) (by omega) (kM_43 km).1 hRm sJ.2.2.1 sJ.2.2.2.2.2.2.2 hx) (fun r2 h2 p hH2 fr2 => ?_)
    obtain ⟨rfl, rfl⟩ := p
    exact ⟨⟨c, ck, m, g, ik, tf, kC_61 (kC_43 kc), kM_61 (kM_43 km), ej, rl, rk⟩, _, rfl, rfl⟩)
end
section
/-! ===== shelves and fields together ===== -/
def bR8 (h : sHp) : Prop := bR5 h ∧ bFL RB h
def bR8M : List Nat := bRM ++ (KBc ++ KBm)
theorem bR8_fr {W gg : Nat} {h h' : sHp} (hH' : bH h') (a : bFr W gg h h') (hW : ∀ b ∈ bR8M, W.testBit b = false) (q : bR8 h) : bR8 h' := ⟨bR5_fr a (fun b hb => hW b (List.mem_append_left _ hb)) q.1, bFL_frO RB_ok RB_no hH' a (fun b hb => hW b (List.mem_append_right _ (List.mem_append_left _ hb))) (fun b hb => hW b (List.mem_append_right _ (List.mem_append_right _ hb))) q.2⟩
theorem pr8_row (s : Int32) (a : Int32) (x : Int32) : pairR bR8 114 178 [.int s, .int a, .int x] := pr_and (R := bR5) (P := bFL RB) (c1 := cn_X11_row_0) (c2 := cn_X12_row_0) (pr_row s a x) (fun hH a q => bFL_frO RB_ok RB_no hH a (by decide +kernel) (by decide +kernel) q) (fun hH a q => bFL_frO RB_ok RB_no hH a (by decide +kernel) (by decide +kernel) q) ch_X11_row_0 ch_X12_row_0 (by decide +kernel) (by decide +kernel) rfl rfl (fun h hH => ⟨bt0 hH, vI0 s, vI0 a, vI0 x, trivial⟩) (fun h hH => ⟨bt60 hH, vI0 s, vI0 a, vI0 x, trivial⟩)
theorem pr8_set (s : Int32) (i : Int32) (v : Int64) : pairR bR8 115 179 [.int s, .int i, .long v] := pr_and (R := bR5) (P := bFL RB) (c1 := cn_X11_set_0) (c2 := cn_X12_set_0) (pr_set s i v) (fun hH a q => bFL_frO RB_ok RB_no hH a (by decide +kernel) (by decide +kernel) q) (fun hH a q => bFL_frO RB_ok RB_no hH a (by decide +kernel) (by decide +kernel) q) ch_X11_set_0 ch_X12_set_0 (by decide +kernel) (by decide +kernel) rfl rfl (fun h hH => ⟨bt0 hH, vI0 s, vI0 i, vL0 v, trivial⟩) (fun h hH => ⟨bt60 hH, vI0 s, vI0 i, vL0 v, trivial⟩)
theorem pr8_cut (s : Int32) (c : Int32) : pairR bR8 118 182 [.int s, .int c] := pr_and (R := bR5) (P := bFL RB) (c1 := cn_X11_cut_0) (c2 := cn_X12_cut_0) (pr_cut s c) (fun hH a q => bFL_frO RB_ok RB_no hH a (by decide +kernel) (by decide +kernel) q) (fun hH a q => bFL_frO RB_ok RB_no hH a (by decide +kernel) (by decide +kernel) q) ch_X11_cut_0 ch_X12_cut_0 (by decide +kernel) (by decide +kernel) rfl rfl (fun h hH => ⟨bt0 hH, vI0 s, vI0 c, trivial⟩) (fun h hH => ⟨bt60 hH, vI0 s, vI0 c, trivial⟩)
theorem pr8_copy (p : Int32) (q : Int32) (i : Int32) (j : Int32) (n : Int32) : pairR bR8 116 180 [.int p, .int q, .int i, .int j, .int n] := pr_and (R := bR5) (P := bFL RB) (c1 := cn_X11_copy_0) (c2 := cn_X12_copy_0) (pr_copy p q i j n) (fun hH a q => bFL_frO RB_ok RB_no hH a (by decide +kernel) (by decide +kernel) q) (fun hH a q => bFL_frO RB_ok RB_no hH a (by decide +kernel) (by decide +kernel) q) ch_X11_copy_0 ch_X12_copy_0 (by decide +kernel) (by decide +kernel) rfl rfl (fun h hH => ⟨bt0 hH, vI0 p, vI0 q, vI0 i, vI0 j, vI0 n, trivial⟩) (fun h hH => ⟨bt60 hH, vI0 p, vI0 q, vI0 i, vI0 j, vI0 n, trivial⟩)
theorem pr8_size (x : Int32) (y : Int32) : pairR bR8 124 204 [.int x, .int y] := pr_swap (A := bFL RB) (B := bR5) (pr_and (R := bFL RB) (P := bR5) (c1 := cn_X11_size_0) (c2 := cn_X12_size_0) (pk_size RB_ok  x y) (fun hH a q => bR5_fr a (by decide +kernel) q) (fun hH a q => bR5_fr a (by decide +kernel) q) ch_X11_size_0 ch_X12_size_0 (by decide +kernel) (by decide +kernel) rfl rfl (fun h hH => ⟨bt0 hH, vI0 x, vI0 y, trivial⟩) (fun h hH => ⟨bt60 hH, vI0 x, vI0 y, trivial⟩))
theorem pr8_place (x : Int32) (v : Int32) : pairR bR8 126 206 [.int x, .int v] := pr_swap (A := bFL RB) (B := bR5) (pr_and (R := bFL RB) (P := bR5) (c1 := cn_X11_place_0) (c2 := cn_X12_place_0) (pk_place RB_ok  x v) (fun hH a q => bR5_fr a (by decide +kernel) q) (fun hH a q => bR5_fr a (by decide +kernel) q) ch_X11_place_0 ch_X12_place_0 (by decide +kernel) (by decide +kernel) rfl rfl (fun h hH => ⟨bt0 hH, vI0 x, vI0 v, trivial⟩) (fun h hH => ⟨bt60 hH, vI0 x, vI0 v, trivial⟩))
theorem pr8_heir (x : Int32) : pairR bR8 127 207 [.int x] := pr_swap (A := bFL RB) (B := bR5) (pr_and (R := bFL RB) (P := bR5) (c1 := cn_X11_heir_0) (c2 := cn_X12_heir_0) (pk_heir RB_ok  x) (fun hH a q => bR5_fr a (by decide +kernel) q) (fun hH a q => bR5_fr a (by decide +kernel) q) ch_X11_heir_0 ch_X12_heir_0 (by decide +kernel) (by decide +kernel) rfl rfl (fun h hH => ⟨bt0 hH, vI0 x, trivial⟩) (fun h hH => ⟨bt60 hH, vI0 x, trivial⟩))
theorem pr8_image : pairR bR8 154 254 [] := pr_swap (A := bFL RB) (B := bR5) (pr_and (R := bFL RB) (P := bR5) (c1 := cn_X11_image_0) (c2 := cn_X12_image_0) (pk_image RB_ok  ) (fun hH a q => bR5_fr a (by decide +kernel) q) (fun hH a q => bR5_fr a (by decide +kernel) q) ch_X11_image_0 ch_X12_image_0 (by decide +kernel) (by decide +kernel) rfl rfl (fun h hH => ⟨bt0 hH, trivial⟩) (fun h hH => ⟨bt60 hH, trivial⟩))
theorem pr8_restore : pairR bR8 155 255 [] := pr_swap (A := bFL RB) (B := bR5) (pr_and (R := bFL RB) (P := bR5) (c1 := cn_X11_restore_0) (c2 := cn_X12_restore_0) (pk_restore RB_ok  ) (fun hH a q => bR5_fr a (by decide +kernel) q) (fun hH a q => bR5_fr a (by decide +kernel) q) ch_X11_restore_0 ch_X12_restore_0 (by decide +kernel) (by decide +kernel) rfl rfl (fun h hH => ⟨bt0 hH, trivial⟩) (fun h hH => ⟨bt60 hH, trivial⟩))
theorem pr8_soil (x : Int32) (v : Int32) : pairR bR8 125 205 [.int x, .int v] := pr_swap (A := bFL RB) (B := bR5) (pr_and (R := bFL RB) (P := bR5) (c1 := cn_X11_soil_0) (c2 := cn_X12_soil_0) (pk_soil RB_ok (fun _ _ r => r) x v) (fun hH a q => bR5_fr a (by decide +kernel) q) (fun hH a q => bR5_fr a (by decide +kernel) q) ch_X11_soil_0 ch_X12_soil_0 (by decide +kernel) (by decide +kernel) rfl rfl (fun h hH => ⟨bt0 hH, vI0 x, vI0 v, trivial⟩) (fun h hH => ⟨bt60 hH, vI0 x, vI0 v, trivial⟩))
theorem pr8_worths (x : Int32) (v : Int32) (y : Int32) : pairR bR8 128 208 [.int x, .int v, .int y] := pr_swap (A := bFL RB) (B := bR5) (pr_and (R := bFL RB) (P := bR5) (c1 := cn_X11_worths_0) (c2 := cn_X12_worths_0) (pk_worths RB_ok (fun _ _ r => r) x v y) (fun hH a q => bR5_fr a (by decide +kernel) q) (fun hH a q => bR5_fr a (by decide +kernel) q) ch_X11_worths_0 ch_X12_worths_0 (by decide +kernel) (by decide +kernel) rfl rfl (fun h hH => ⟨bt0 hH, vI0 x, vI0 v, vI0 y, trivial⟩) (fun h hH => ⟨bt60 hH, vI0 x, vI0 v, vI0 y, trivial⟩))
theorem pr8_fond (x : Int32) (b : Int32) (hb : b = 0 ∨ b = 1) : pairR bR8 129 209 [.int x, .int b] := pr_swap (A := bFL RB) (B := bR5) (pr_and (R := bFL RB) (P := bR5) (c1 := cn_X11_fond_0) (c2 := cn_X12_fond_0) (pk_fond RB_ok (fun _ _ r => r) RB_fo x b hb) (fun hH a q => bR5_fr a (by decide +kernel) q) (fun hH a q => bR5_fr a (by decide +kernel) q) ch_X11_fond_0 ch_X12_fond_0 (by decide +kernel) (by decide +kernel) rfl rfl (fun h hH => ⟨bt0 hH, vI0 x, vZ0 hb, trivial⟩) (fun h hH => ⟨bt60 hH, vI0 x, vZ0 hb, trivial⟩))
theorem pr8_field (x : Int32) : pairR bR8 122 202 [.int x] := pk_field RB_ok x
end
