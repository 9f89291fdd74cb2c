/-! ===== two fields under a relation, now and kept ===== -/
def kC (h : sHp) (c ck : CF) (ik tf : Int32) : Prop := FC h 5 c ∧ FC h 16 ck ∧ h[0]? = some (cO ik tf) ∧ fxR h 27
def kM (h : sHp) (m : MF) (g : Nat → Int32) : Prop := MC h m ∧ h[75]? = some (.inl (0, 180, .inl g))
def bFL (Rel : CF → MF → Prop) (h : sHp) : Prop := ∃ (c ck : CF) (m : MF) (g : Nat → Int32) (ik tf : Int32), kC h c ck ik tf ∧ kM h m g ∧ m.1 37 = ik ∧ Rel c m ∧ (¬ ik = 0 → ∀ m', Rel ck (mfBack m' g))
theorem FC_tr {h h' : sHp} {p : Nat} {c : CF} (F : FC h p c) (e : ∀ q x, p ≤ q → q ≤ p + 10 → h[q]? = some x → h'[q]? = some x) : FC h' p c := by
  obtain ⟨a0, a1, a2, ⟨f, a3, a4⟩, a5, a6, a7⟩ := F
  exact ⟨e _ _ (by omega) (by omega) a0, e _ _ (by omega) (by omega) a1, e _ _ (by omega) (by omega) a2, ⟨f, e _ _ (by omega) (by omega) a3, a4⟩, fun k hk => e _ _ (by omega) (by omega) (a5 k hk), e _ _ (by omega) (by omega) a6, e _ _ (by omega) (by omega) a7⟩
theorem MC_tr {h h' : sHp} {m : MF} (M : MC h m) (e : ∀ q x, 60 ≤ q → q ≤ 66 → q ≠ 61 → h[q]? = some x → h'[q]? = some x) : MC h' m := by
  obtain ⟨a0, a1, a2, a3, a4, a5⟩ := M
  exact ⟨e _ _ (by decide) (by decide) (by decide) a0, e _ _ (by decide) (by decide) (by decide) a1, e _ _ (by decide) (by decide) (by decide) a2, e _ _ (by decide) (by decide) (by decide) a3, e _ _ (by decide) (by decide) (by decide) a4, e _ _ (by decide) (by decide) (by decide) a5⟩
theorem fx_tr {h h' : sHp} {p : Nat} (F : fxR h p) (e : ∀ q x, p ≤ q → q ≤ p + 10 → h[q]? = some x → h'[q]? = some x) : fxR h' p := by
  obtain ⟨f, a, b⟩ := F
  exact ⟨f, e _ _ (by omega) (by omega) a, b⟩
theorem kC_tr {h h' : sHp} {c ck : CF} {ik tf : Int32} (K : kC h c ck ik tf) (e : ∀ q x, q < 38 → h[q]? = some x → h'[q]? = some x) : kC h' c ck ik tf :=
  ⟨FC_tr K.1 (fun q x h1 h2 => e q x (by omega)), FC_tr K.2.1 (fun q x h1 h2 => e q x (by omega)), e _ _ (by decide) K.2.2.1, fx_tr K.2.2.2 (fun q x h1 h2 => e q x (by omega))⟩
theorem kM_tr {h h' : sHp} {m : MF} {g : Nat → Int32} (K : kM h m g) (e : ∀ q x, 60 ≤ q → q ≠ 61 → h[q]? = some x → h'[q]? = some x) : kM h' m g :=
  ⟨MC_tr K.1 (fun q x h1 h2 h3 => e q x h1 h3), e _ _ (by decide) (by decide) K.2⟩
theorem kM_43 {h : sHp} {m : MF} {g : Nat → Int32} {c : va_E} (K : kM h m g) : kM (h.set 43 c) m g := kM_tr K (fun q x h1 _ hx => by rw [s_set_ne (by omega)]; exact hx)
theorem kC_43 {h : sHp} {c ck : CF} {ik tf : Int32} {x : va_E} (K : kC h c ck ik tf) : kC (h.set 43 x) c ck ik tf := kC_tr K (fun q x h1 hx => by rw [s_set_ne (by omega)]; exact hx)
theorem kM_61 {h : sHp} {m : MF} {g : Nat → Int32} {c : va_E} (K : kM h m g) : kM (h.set 61 c) m g := kM_tr K (fun q x h1 h2 hx => by rw [s_set_ne (by omega)]; exact hx)
theorem kC_61 {h : sHp} {c ck : CF} {ik tf : Int32} {x : va_E} (K : kC h c ck ik tf) : kC (h.set 61 x) c ck ik tf := kC_tr K (fun q x h1 hx => by rw [s_set_ne (by omega)]; exact hx)
theorem kM_fE {h h' : sHp} {m : MF} {g : Nat → Int32} (K : kM h m g) (E : fE 5 h h') : kM h' m g := kM_tr K (fun q x h1 _ hx => (E.2 q (by omega)).trans hx)
theorem kC_5 {h h' : sHp} {c c1 ck : CF} {ik tf : Int32} (K : kC h c ck ik tf) (F : FC h' 5 c1) (E : fE 5 h h') : kC h' c1 ck ik tf :=
  ⟨F, FC_tr K.2.1 (fun q x h1 h2 hx => (E.2 q (by omega)).trans hx), (E.2 0 (by decide)).trans K.2.2.1, fx_tr K.2.2.2 (fun q x h1 h2 hx => (E.2 q (by omega)).trans hx)⟩
theorem kC_mE {h h' : sHp} {c ck : CF} {ik tf : Int32} (K : kC h c ck ik tf) (E : mE h h') : kC h' c ck ik tf := kC_tr K (fun q x h1 hx => (E.2 q (by omega) (by omega)).trans hx)
theorem fb_of {h : sHp} {p : Nat} {c : CF} (hH : bH h) (F : FC h p c) (hp : p = 5 ∨ p = 16) : fb01 c := by
  rcases hp with rfl | rfl
  · obtain ⟨f, a, b⟩ := bA60B hH (p := 14) (by decide) rfl
    have a' : h[14]? = some (.inl (2, 5, .inl c.2.2.2.2.2.1)) := F.2.2.2.2.2.1
    rw [a'] at a
    cases a
    exact fun k hk => i_01 (b k hk).1 (b k hk).2
  · obtain ⟨f, a, b⟩ := bA60B hH (p := 25) (by decide) rfl
    have a' : h[25]? = some (.inl (2, 5, .inl c.2.2.2.2.2.1)) := F.2.2.2.2.2.1
    rw [a'] at a
    cases a
    exact fun k hk => i_01 (b k hk).1 (b k hk).2
/-! ===== frames ===== -/
def KBc : List Nat := (List.range 11).map (fun j => 0 * 64 + j) ++ ((List.range 17).map (fun j => 5 * 64 + j) ++ ((List.range 17).map (fun j => 16 * 64 + j) ++ [6 * 64, 7 * 64, 8 * 64, 14 * 64, 17 * 64, 18 * 64, 19 * 64, 25 * 64, 26 * 64, 30 * 64, 82 * 64, 83 * 64]))
def KBm : List Nat := NKm ++ [62 * 64, 64 * 64, 65 * 64, 66 * 64]
theorem KBc_0 {j : Nat} (hj : j < 11) : 0 * 64 + j ∈ KBc := List.mem_append_left _ (List.mem_map.mpr ⟨j, List.mem_range.mpr hj, rfl⟩)
theorem KBc_5 {j : Nat} (hj : j < 17) : 5 * 64 + j ∈ KBc := List.mem_append_right _ (List.mem_append_left _ (List.mem_map.mpr ⟨j, List.mem_range.mpr hj, rfl⟩))
theorem KBc_16 {j : Nat} (hj : j < 17) : 16 * 64 + j ∈ KBc := List.mem_append_right _ (List.mem_append_right _ (List.mem_append_left _ (List.mem_map.mpr ⟨j, List.mem_range.mpr hj, rfl⟩)))
theorem FC_frO {W gg p K : Nat} {h h' : sHp} {I : Nat → Int32} {G : Nat → Int64} {so : Nat → Int64} {sh : Nat → Int32} {wo : Nat → Nat → Int32} {fo : Nat → Int32} {ow ow' : Nat → Int64} (hp : (p = 5 ∧ K = 82) ∨ (p = 16 ∧ K = 83)) (a : bFr W gg h h') (h0 : ∀ j, j < 17 → W.testBit (p * 64 + j) = false) (hj : ∀ j, j = 1 ∨ j = 2 ∨ j = 3 ∨ j = 9 → W.testBit ((p + j) * 64) = false) (hw : W.testBit (K * 64) = false) (h10 : h'[p + 10]? = some (.inl (1, 7, .inr (.inl ow')))) (F : FC h p (I, G, so, sh, wo, fo, ow)) : FC h' p (I, G, so, sh, wo, fo, ow') := by
  obtain ⟨a0, a1, a2, ⟨f, a3, a4⟩, a5, a6, a7⟩ := F
  rcases hp with ⟨rfl, rfl⟩ | ⟨rfl, rfl⟩
  · refine ⟨bFr_obj (K := 5) (n := 17) a a0 rfl rfl h0, bFr_arr a a1 (by decide) rfl (hj 1 (by decide)), bFr_arr a a2 (by decide) rfl (hj 2 (by decide)), ⟨f, bFr_arr a a3 (by decide) rfl (hj 3 (by decide)), a4⟩, fun k hk => ?_, bFr_arr a a6 (by decide) rfl (hj 9 (by decide)), h10⟩
    match k, hk with
    | 0, _ => exact bFr_arr (p := 9) (K := 82) a (a5 0 (by decide)) (by decide) rfl hw
    | 1, _ => exact bFr_arr (p := 10) (K := 82) a (a5 1 (by decide)) (by decide) rfl hw
    | 2, _ => exact bFr_arr (p := 11) (K := 82) a (a5 2 (by decide)) (by decide) rfl hw
    | 3, _ => exact bFr_arr (p := 12) (K := 82) a (a5 3 (by decide)) (by decide) rfl hw
    | 4, _ => exact bFr_arr (p := 13) (K := 82) a (a5 4 (by decide)) (by decide) rfl hw
    | k + 5, hk => exact absurd hk (by omega)
  · refine ⟨bFr_obj (K := 16) (n := 17) a a0 rfl rfl h0, bFr_arr a a1 (by decide) rfl (hj 1 (by decide)), bFr_arr a a2 (by decide) rfl (hj 2 (by decide)), ⟨f, bFr_arr a a3 (by decide) rfl (hj 3 (by decide)), a4⟩, fun k hk => ?_, bFr_arr a a6 (by decide) rfl (hj 9 (by decide)), h10⟩
    match k, hk with
    | 0, _ => exact bFr_arr (p := 20) (K := 83) a (a5 0 (by decide)) (by decide) rfl hw
    | 1, _ => exact bFr_arr (p := 21) (K := 83) a (a5 1 (by decide)) (by decide) rfl hw
    | 2, _ => exact bFr_arr (p := 22) (K := 83) a (a5 2 (by decide)) (by decide) rfl hw
    | 3, _ => exact bFr_arr (p := 23) (K := 83) a (a5 3 (by decide)) (by decide) rfl hw
    | 4, _ => exact bFr_arr (p := 24) (K := 83) a (a5 4 (by decide)) (by decide) rfl hw
    | k + 5, hk => exact absurd hk (by omega)
/-- the class's part but for the owners now -/
theorem kC_frO {W gg : Nat} {h h' : sHp} {c ck : CF} {ik tf : Int32} {ow' : Nat → Int64} (a : bFr W gg h h') (hW : ∀ b ∈ KBc, W.testBit b = false) (h15 : h'[15]? = some (.inl (1, 7, .inr (.inl ow')))) (q : kC h c ck ik tf) : kC h' (c.1, c.2.1, c.2.2.1, c.2.2.2.1, c.2.2.2.2.1, c.2.2.2.2.2.1, ow') ck ik tf := by
  obtain ⟨F, Fk, q0, ⟨f, f1, f2⟩⟩ := q
  obtain ⟨I, G, so, sh, wo, fo, ow⟩ := c
  obtain ⟨Ik, Gk, sok, shk, wok, fok, owk⟩ := ck
  refine ⟨FC_frO (Or.inl ⟨rfl, rfl⟩) a (fun j hj => hW _ (KBc_5 hj)) (fun j hj => ?_) (hW _ (by decide)) h15 F, FC_frO (Or.inr ⟨rfl, rfl⟩) a (fun j hj => hW _ (KBc_16 hj)) (fun j hj => ?_) (hW _ (by decide)) (bFr_arr a Fk.2.2.2.2.2.2 (by decide) rfl (hW _ (by decide))) Fk, bFr_obj (K := 0) (n := 11) a q0 rfl rfl (fun j hj => hW _ (KBc_0 hj)), ⟨f, bFr_arr a f1 (by decide) rfl (hW _ (by decide)), f2⟩⟩
  · rcases hj with rfl | rfl | rfl | rfl
    · exact hW (6 * 64) (by decide)
    · exact hW (7 * 64) (by decide)
    · exact hW (8 * 64) (by decide)
    · exact hW (14 * 64) (by decide)
  · rcases hj with rfl | rfl | rfl | rfl
    · exact hW (17 * 64) (by decide)
    · exact hW (18 * 64) (by decide)
    · exact hW (19 * 64) (by decide)
    · exact hW (25 * 64) (by decide)
theorem kC_fr {W gg : Nat} {h h' : sHp} {c ck : CF} {ik tf : Int32} (a : bFr W gg h h') (hW : ∀ b ∈ KBc, W.testBit b = false) (h15 : W.testBit (15 * 64) = false) (q : kC h c ck ik tf) : kC h' c ck ik tf :=
  kC_frO a hW (bFr_arr a q.1.2.2.2.2.2.2 (by decide) rfl h15) q
/-- the reference's part but for the owners -/
theorem kM_frO {W gg : Nat} {h h' : sHp} {m : MF} {g ow' : Nat → Int32} (hH' : bH h') (a : bFr W gg h h') (hW : ∀ b ∈ KBm, W.testBit b = false) (h63 : h'[63]? = some (.inl (0, 64, .inl ow'))) (q : kM h m g) : ∃ J', kM h' (J', m.2.1, ow', m.2.2.2) g ∧ (∀ j, j < 7 → J' j = m.1 j) ∧ J' 37 = m.1 37 := by
  obtain ⟨M, g75⟩ := q
  obtain ⟨⟨J', b1, b2, b3⟩, b4⟩ := nkM_fr (J := m.1) (g := g) hH' a (fun b hb => hW b (List.mem_append_left _ hb)) ⟨⟨m.1, M.1, fun _ _ => rfl, rfl⟩, g75⟩
  have mm : ∀ b ∈ [62 * 64, 64 * 64, 65 * 64, 66 * 64], W.testBit b = false := fun b hb => hW b (List.mem_append_right _ hb)
  exact ⟨J', ⟨⟨b1, bFr_arr a M.2.1 (by decide) rfl (mm _ (by decide)), h63, bFr_arr a M.2.2.2.1 (by decide) rfl (mm _ (by decide)), bFr_arr a M.2.2.2.2.1 (by decide) rfl (mm _ (by decide)), bFr_arr a M.2.2.2.2.2 (by decide) rfl (mm _ (by decide))⟩, b4⟩, b2, b3⟩
/-- a relation that says nothing of owners -/
def noOw (Rel : CF → MF → Prop) : Prop := ∀ (c : CF) (m : MF) (o1 : Nat → Int64) (o2 : Nat → Int32), Rel c m → Rel (c.1, c.2.1, c.2.2.1, c.2.2.2.1, c.2.2.2.2.1, c.2.2.2.2.2.1, o1) (m.1, m.2.1, o2, m.2.2.2)
theorem bFL_frO {Rel : CF → MF → Prop} (ok : relOk Rel) (no : noOw Rel) {W gg : Nat} {h h' : sHp} (hH' : bH h') (a : bFr W gg h h') (hc : ∀ b ∈ KBc, W.testBit b = false) (hm : ∀ b ∈ KBm, W.testBit b = false) (q : bFL Rel h) : bFL Rel h' := by
  obtain ⟨c, ck, m, g, ik, tf, kc, km, ej, rl, rk⟩ := q
  obtain ⟨ow, h15⟩ := bA60L hH' (p := 15) (by decide) rfl
  obtain ⟨ow', h63, -, -⟩ := bA60 hH' (p := 63) (by decide) rfl
  obtain ⟨J', km', eJ, e37⟩ := kM_frO hH' a hm h63 km
  exact ⟨_, ck, _, g, ik, tf, kC_frO a hc h15 kc, km', e37.trans ej, ok.1 _ _ _ (no c m ow ow' rl) ⟨eJ, rfl⟩, rk⟩
theorem bFL_fr {Rel : CF → MF → Prop} (ok : relOk Rel) {W gg : Nat} {h h' : sHp} (hH' : bH h') (a : bFr W gg h h') (hc : ∀ b ∈ KBc, W.testBit b = false) (h15 : W.testBit (15 * 64) = false) (hm : ∀ b ∈ KBm, W.testBit b = false) (h63 : W.testBit (63 * 64) = false) (q : bFL Rel h) : bFL Rel h' := by
  obtain ⟨c, ck, m, g, ik, tf, kc, km, ej, rl, rk⟩ := q
  obtain ⟨J', km', eJ, e37⟩ := kM_frO hH' a hm (bFr_arr a km.1.2.2.1 (by decide) rfl h63) km
  exact ⟨c, ck, _, g, ik, tf, kC_fr a hc h15 kc, km', e37.trans ej, ok.1 _ _ _ rl ⟨eJ, rfl⟩, rk⟩
theorem pk_size {Rel : CF → MF → Prop} (ok : relOk Rel) (x : Int32) (y : Int32) : pairR (bFL Rel) 124 204 [.int x, .int y] := pr_mk (c1 := cn_X11_size_0) (c2 := cn_X12_size_0) ch_X11_size_0 ch_X12_size_0 (by decide +kernel) (by decide +kernel) (by decide +kernel) (by decide +kernel) rfl rfl (fun h hH => ⟨bt0 hH, vI0 x, vI0 y, trivial⟩) (fun h hH => ⟨bt60 hH, vI0 x, vI0 y, trivial⟩) (fun h hH hR => by
  obtain ⟨c, ck, m, g, ik, tf, kc, km, ej, rl, rk⟩ := hR
  have F := kc.1
  have q0 := kc.2.2.1
  obtain ⟨Rc, hRc⟩ := RA_of hH (p := 43) (Or.inl rfl)
  obtain ⟨s, sI, sJ, gF, gM⟩ := RN_sg (ok.2.2.2.2.1 _ _ rl)
  refine sDo_mono (s_size11 (d := 10) (by omega) q0 hRc F) (fun r1 h1 q hH1 fr1 => ?_)
  have okE : okSz x y ↔ (2 ≤ x.toInt ∧ x.toInt ≤ 8 ∧ 2 ≤ y.toInt ∧ y.toInt ≤ 8) := Iff.rfl
  rcases q with ⟨k, rfl, F1, E1⟩ | ⟨k, rfl, rfl⟩
  · have km1 := kM_fE km E1
    refine sDo_mono (s_size12 (x := x) (y := y) hH1 km1.1) (fun r2 h2 p hH2 fr2 => ?_)
    rcases p with ⟨-, rfl, M2⟩ | ⟨k2, -⟩
    · have nc := kC_fr fr2 (by decide +kernel) (by decide +kernel) (kC_5 kc F1 E1)
      rw [okE] at k
      obtain ⟨X, hX⟩ : ∃ X : Nat, x.toInt = X := ⟨x.toInt.toNat, by omega⟩
      obtain ⟨Y, hY⟩ : ∃ Y : Nat, y.toInt = Y := ⟨y.toInt.toNat, by omega⟩
      have ex : x = Int32.ofNat X := Int32.toInt_inj.mp (by rw [hX, ofN_toInt (by omega)])
      have ey : y = Int32.ofNat Y := Int32.toInt_inj.mp (by rw [hY, ofN_toInt (by omega)])
      rw [ex, ey] at nc M2
      exact ⟨⟨_, ck, _, g, ik, tf, nc, ⟨M2, M75 fr2 km1.2 (by decide +kernel)⟩, ej, ok.2.1 _ _ s (0, X, Y, 0) rl sI sJ ⟨by omega, by omega, by omega, by omega⟩, rk⟩, _, rfl, rfl⟩
    · exact absurd k k2
  · have km1 := kM_43 (c := rFc (bump Rc 6)) km
    refine sDo_mono (s_size12 (x := x) (y := y) hH1 km1.1) (fun r2 h2 p hH2 fr2 => ?_)
    rcases p with ⟨k2, -⟩ | ⟨-, rfl, M2⟩
    · exact absurd k2 k
    · exact ⟨⟨c, ck, m, g, ik, tf, kC_fr fr2 (by decide +kernel) (by decide +kernel) (kC_43 kc), ⟨M2, M75 fr2 km1.2 (by decide +kernel)⟩, ej, rl, rk⟩, _, rfl, rfl⟩)
theorem pk_place {Rel : CF → MF → Prop} (ok : relOk Rel) (x : Int32) (v : Int32) : pairR (bFL Rel) 126 206 [.int x, .int v] := pr_mk (c1 := cn_X11_place_0) (c2 := cn_X12_place_0) ch_X11_place_0 ch_X12_place_0 (by decide +kernel) (by decide +kernel) (by decide +kernel) (by decide +kernel) rfl rfl (fun h hH => ⟨bt0 hH, vI0 x, vI0 v, trivial⟩) (fun h hH => ⟨bt60 hH, vI0 x, vI0 v, trivial⟩) (fun h hH hR => by
  obtain ⟨c, ck, m, g, ik, tf, kc, km, ej, rl, rk⟩ := hR
  have F := kc.1
  have q0 := kc.2.2.1
  obtain ⟨Rc, hRc⟩ := RA_of hH (p := 43) (Or.inl rfl)
  obtain ⟨s, sI, sJ, gF, gM⟩ := RN_sg (ok.2.2.2.2.1 _ _ rl)
  refine sDo_mono (s_place11 (d := 10) (x := x) (v := v) (by omega) q0 hRc F gF) (fun r1 h1 q hH1 fr1 => ?_)
  obtain ⟨Rm, hRm⟩ := RA_of hH1 (p := 61) (Or.inr rfl)
  rcases q with ⟨K, hK, hx, k, rfl, rfl⟩ | ⟨k, rfl, rfl⟩
  · have F1 := FC_0 (I := upd c.1 (7 + K) v) (G := c.2.1) F
    have E1 : fE 5 h (h.set 5 (fO 5 (upd c.1 (7 + K) v) c.2.1)) := fE_set fE_rfl (by omega) (by omega)
    have km1 := kM_fE km E1
    refine sDo_mono (s_place12 (d := 10) (x := x) (v := v) (by omega) km1.1 hRm gM) (fun r2 h2 p hH2 fr2 => ?_)
    rcases p with ⟨K2, hK2, hx2, -, rfl, rfl⟩ | ⟨k2, -⟩
    · have eK : K2 = K := by omega
      subst eK
      have nc := kC_mE (kC_5 kc F1 E1) (mE_set (q := 60) (x := mO (upd m.1 (2 + K2) v)) mE_rfl (by decide))
      have M2 := MC_0 (f := upd m.1 (2 + K2) v) km1.1
      have g2 : (List.set (List.set h 5 (fO 5 (upd c.1 (7 + K2) v) c.2.1)) 60 (mO (upd m.1 (2 + K2) v)))[75]? = some (.inl (0, 180, .inl g)) := by rw [s_set_ne (by decide)]; exact km1.2
      rw [hx2] at k
      have rl2 := ok.2.2.2.2.2 _ _ s K2 v rl sI hK k
      obtain ⟨W', H', N', -, -, -, -, -, -, mk⟩ := ok.2.2.2.2.1 _ _ rl
      have ev : c.1 (7 + K2) = m.1 (2 + K2) := mk K2 hK
      refine ⟨⟨_, ck, _, g, ik, tf, nc, ⟨M2, g2⟩, (u_ne (by omega)).trans ej, rl2, rk⟩, _, rfl, ?_⟩
      exact congrArg (fun z => some (Value.int z)) ev.symm
    · exact absurd k k2
  · refine sDo_mono (s_place12 (d := 10) (x := x) (v := v) (by omega) (kM_43 km).1 hRm gM) (fun r2 h2 p hH2 fr2 => ?_)
    rcases p with ⟨-, -, -, k2, -⟩ | ⟨-, rfl, rfl⟩
    · exact absurd k2 k
    · exact ⟨⟨c, ck, m, g, ik, tf, kC_61 (kC_43 kc), kM_61 (kM_43 km), ej, rl, rk⟩, _, rfl, rfl⟩)
theorem pk_heir {Rel : CF → MF → Prop} (ok : relOk Rel) (x : Int32) : pairR (bFL Rel) 127 207 [.int x] := pr_mk (c1 := cn_X11_heir_0) (c2 := cn_X12_heir_0) ch_X11_heir_0 ch_X12_heir_0 (by decide +kernel) (by decide +kernel) (by decide +kernel) (by decide +kernel) rfl rfl (fun h hH => ⟨bt0 hH, vI0 x, trivial⟩) (fun h hH => ⟨bt60 hH, vI0 x, trivial⟩) (fun h hH hR => by
  obtain ⟨c, ck, m, g, ik, tf, kc, km, ej, rl, rk⟩ := hR
  have F := kc.1
  have q0 := kc.2.2.1
  obtain ⟨Rc, hRc⟩ := RA_of hH (p := 43) (Or.inl rfl)
  obtain ⟨s, sI, sJ, gF, gM⟩ := RN_sg (ok.2.2.2.2.1 _ _ rl)
  refine sDo_mono (s_heir11 (d := 10) (x := x) (N := s.2.2) (by omega) q0 hRc F sI.2.2.1 sI.2.2.2.2.2.2.2) (fun r1 h1 q hH1 fr1 => ?_)
  obtain ⟨Rm, hRm⟩ := RA_of hH1 (p := 61) (Or.inr rfl)
  rcases q with ⟨k, k1, rfl, F1, E1⟩ | ⟨k, k1, rfl, rfl⟩ | ⟨k, rfl, rfl⟩
  · have km1 := kM_fE km E1
    refine sDo_mono (s_heir12 (d := 10) (x := x) (N := s.2.2) (by omega) km1.1 hRm sJ.2.2.1 sJ.2.2.2.2.2.2.2) (fun r2 h2 p hH2 fr2 => ?_)
    rcases p with ⟨-, -, rfl, M2, E2⟩ | ⟨-, k2, -⟩ | ⟨k2, -⟩
    · obtain ⟨X, hX⟩ : ∃ X : Nat, x.toInt = X := ⟨x.toInt.toNat, by omega⟩
      have ex : x = Int32.ofNat X := Int32.toInt_inj.mp (by rw [hX, ofN_toInt (by omega)])
      have eN := ofN_toInt (n := s.2.2) (by omega)
      have e1 : (c.1 11).toNatClampNeg = s.2.2 := by rw [sI.2.2.1]; exact i_nat eN
      have e2 : (m.1 6).toNatClampNeg = s.2.2 := by rw [sJ.2.2.1]; exact i_nat eN
      have rl2 : Rel (cfHeir (c.1 11).toNatClampNeg (Int32.ofNat X) c) (mfHeir (m.1 6).toNatClampNeg (Int32.ofNat X) m) := ok.2.1 _ _ s (3, X, 0, 0) rl sI sJ ⟨by omega, by omega, k1⟩
      rw [e1, e2, ← ex] at rl2
      exact ⟨⟨_, ck, _, g, ik, tf, kC_mE (kC_5 kc F1 E1) E2, ⟨M2, (E2.2 75 (by decide) (by decide)).trans km1.2⟩, ej, rl2, rk⟩, _, rfl, rfl⟩
    · omega
    · exact absurd k k2
  · refine sDo_mono (s_heir12 (d := 10) (x := x) (N := s.2.2) (by omega) (kM_43 km).1 hRm sJ.2.2.1 sJ.2.2.2.2.2.2.2) (fun r2 h2 p hH2 fr2 => ?_)
    rcases p with ⟨-, k2, -⟩ | ⟨-, -, rfl, rfl⟩ | ⟨k2, -⟩
    · omega
    · exact ⟨⟨c, ck, m, g, ik, tf, kC_61 (kC_43 kc), kM_61 (kM_43 km), ej, rl, rk⟩, _, rfl, rfl⟩
    · exact absurd k k2
  · refine sDo_mono (s_heir12 (d := 10) (x := x) (N := s.2.2) (by omega) (kM_43 km).1 hRm sJ.2.2.1 sJ.2.2.2.2.2.2.2) (fun r2 h2 p hH2 fr2 => ?_)
    rcases p with ⟨k2, -⟩ | ⟨k2, -⟩ | ⟨-, rfl, rfl⟩
    · exact absurd k2 k
    · exact absurd k2 k
    · exact ⟨⟨c, ck, m, g, ik, tf, kC_61 (kC_43 kc), kM_61 (kM_43 km), ej, rl, rk⟩, _, rfl, rfl⟩)
theorem pk_image {Rel : CF → MF → Prop} (ok : relOk Rel) : pairR (bFL Rel) 154 254 [] := pr_mk (c1 := cn_X11_image_0) (c2 := cn_X12_image_0) ch_X11_image_0 ch_X12_image_0 (by decide +kernel) (by decide +kernel) (by decide +kernel) (by decide +kernel) rfl rfl (fun h hH => ⟨bt0 hH, trivial⟩) (fun h hH => ⟨bt60 hH, trivial⟩) (fun h hH hR => by
  obtain ⟨c, ck, m, g, ik, tf, kc, km, ej, rl, rk⟩ := hR
  have F := kc.1
  have q0 := kc.2.2.1
  obtain ⟨Rc, hRc⟩ := RA_of hH (p := 43) (Or.inl rfl)
  obtain ⟨s, sI, sJ, gF, gM⟩ := RN_sg (ok.2.2.2.2.1 _ _ rl)
  refine sDo_mono (s_image11 (d := 10) (by omega) q0 F kc.2.1 (fb_of hH F (Or.inl rfl))) (fun r1 h1 q hH1 fr1 => ?_)
  obtain ⟨rfl, F1, Fk1, z0, -, zq⟩ := q
  have km1 := kM_tr km (fun q x h1 _ hx => (zq q (by omega)).trans hx)
  refine sDo_mono (s_image12 km1.1 km1.2) (fun r2 h2 p hH2 fr2 => ?_)
  obtain ⟨rfl, M2, g2⟩ := p
  have nc : kC h1 c (cfBecome c ck) 1 tf := ⟨F1, Fk1, z0, fx_tr kc.2.2.2 (fun q x h1 h2 hx => (zq q (by omega)).trans hx)⟩
  have nc2 := kC_fr fr2 (by decide +kernel) (by decide +kernel) nc
  obtain ⟨W', H', N', -, -, c11, -, -, m6, -⟩ := ok.2.2.2.2.1 _ _ rl
  refine ⟨⟨c, _, _, _, 1, tf, nc2, ⟨M2, g2⟩, rfl, ok.1 _ m (upd m.1 37 (Int32.ofInt 1), m.2) rl ⟨fun j hj => u_ne (by omega), rfl⟩, fun _ m' => ok.2.2.2.1 _ m m' g (ok.2.2.1 c ck m rl)⟩, _, rfl, ?_⟩
  exact congrArg (fun z => some (Value.int z)) (m6.trans c11.symm))
theorem pk_restore {Rel : CF → MF → Prop} (ok : relOk Rel) : pairR (bFL Rel) 155 255 [] := pr_mk (c1 := cn_X11_restore_0) (c2 := cn_X12_restore_0) ch_X11_restore_0 ch_X12_restore_0 (by decide +kernel) (by decide +kernel) (by decide +kernel) (by decide +kernel) rfl rfl (fun h hH => ⟨bt0 hH, trivial⟩) (fun h hH => ⟨bt60 hH, trivial⟩) (fun h hH hR => by
  obtain ⟨c, ck, m, g, ik, tf, kc, km, ej, rl, rk⟩ := hR
  have F := kc.1
  have q0 := kc.2.2.1
  obtain ⟨Rc, hRc⟩ := RA_of hH (p := 43) (Or.inl rfl)
  obtain ⟨s, sI, sJ, gF, gM⟩ := RN_sg (ok.2.2.2.2.1 _ _ rl)
  refine sDo_mono (s_restore11 (d := 10) (by omega) q0 hRc F kc.2.1 (fb_of hH kc.2.1 (Or.inr rfl))) (fun r1 h1 q hH1 fr1 => ?_)
  rcases q with ⟨k, rfl, F1, E1⟩ | ⟨k, rfl, rfl⟩
  · have km1 := kM_fE km E1
    refine sDo_mono (s_restore12 hH1 km1.1 km1.2) (fun r2 h2 p hH2 fr2 => ?_)
    rcases p with ⟨k2, -⟩ | ⟨-, rfl, M2, g2⟩
    · exact absurd (ej.symm.trans k2) k
    · have nc := kC_fr fr2 (by decide +kernel) (by decide +kernel) (kC_5 kc F1 E1)
      have rl2 := ok.2.2.1 ck c _ (rk k m)
      obtain ⟨W', H', N', -, -, c11, -, -, m6, -⟩ := ok.2.2.2.2.1 _ _ (rk k m)
      refine ⟨⟨_, ck, _, g, ik, tf, nc, ⟨M2, g2⟩, ej, rl2, rk⟩, _, rfl, ?_⟩
      exact congrArg (fun z => some (Value.int z)) (show g 174 = ck.1 11 from m6.trans c11.symm)
  · have km1 := kM_43 (c := rFc (bump Rc 6)) km
    refine sDo_mono (s_restore12 hH1 km1.1 km1.2) (fun r2 h2 p hH2 fr2 => ?_)
    rcases p with ⟨-, rfl, M2, g2⟩ | ⟨k2, -⟩
    · exact ⟨⟨c, ck, m, g, ik, tf, kC_fr fr2 (by decide +kernel) (by decide +kernel) (kC_43 kc), ⟨M2, g2⟩, ej, rl, rk⟩, _, rfl, rfl⟩
    · exact absurd (ej.trans k) k2)
