/-! ===== texts: items ===== -/
/-- what an item does: (0, w, h, _) size; (1, v, from, to) soil; (2, what, v, _) a place; (3, share, _, _) an heir; (4, heir, soil, v) a worth -/
def Act : Type := Nat × Nat × Nat × Nat
def cfDo (c : CF) (a : Act) : CF := match a with
  | (0, w, hh, _) => cfSize (Int32.ofNat w) (Int32.ofNat hh) c
  | (1, v, fr, to) => (c.1, c.2.1, giveS c.2.2.1 6 ((lowS (Int32.ofNat (to + 1)) &&& c.2.1 2) &&& ((lowS (Int32.ofNat fr) &&& c.2.1 2) ^^^ Int64.ofNat 18446744073709551615)) v, c.2.2.2)
  | (2, k, v, _) => (upd c.1 (7 + k) (Int32.ofNat v), c.2)
  | (3, share, _, _) => cfHeir (c.1 11).toNatClampNeg (Int32.ofNat share) c
  | (_, i, v, x) => (c.1, c.2.1, c.2.2.1, c.2.2.2.1, (fun k => if k = i then upd (c.2.2.2.2.1 i) v (Int32.ofNat x) else c.2.2.2.2.1 k), c.2.2.2.2.2)
def gE (rp : Nat) (h h' : sHp) : Prop := h'.length = h.length ∧ ∀ q, (q < 27 ∨ 37 < q) → q ≠ rp → h'[q]? = h[q]?
theorem gE_rfl {rp : Nat} {h : sHp} : gE rp h h := ⟨rfl, fun _ _ _ => rfl⟩
theorem gE_tr {rp : Nat} {h h1 h2 : sHp} (a : gE rp h h1) (b : gE rp h1 h2) : gE rp h h2 := ⟨b.1.trans a.1, fun q x y => (b.2 q x y).trans (a.2 q x y)⟩
theorem gE_rp {rp : Nat} {h h1 : sHp} {x : va_E} (a : gE rp h h1) : gE rp h (h1.set rp x) := ⟨by rw [List.length_set]; exact a.1, fun q y z => by rw [s_set_ne (Ne.symm z)]; exact a.2 q y z⟩
theorem gE_f {rp : Nat} {h h1 h2 : sHp} (a : gE rp h h1) (b : fE 27 h1 h2) : gE rp h h2 := ⟨b.1.trans a.1, fun q y z => (b.2 q (by omega)).trans (a.2 q y z)⟩
theorem fE_at {p q : Nat} {h h1 : sHp} {x : va_E} (a : fE p h h1) (hx : h[q]? = some x) (hq : q < p ∨ p + 10 < q) : h1[q]? = some x := (a.2 q hq).trans hx
def qRd (rp tp : Nat) (flt : Int32) (h : sHp) (c : CF) (q : Option (List Act × Nat)) (r : Option Value) (h' : sHp) : Prop := match q with
  | some (as, A') => r = some (.int 1) ∧ h'[rp]? = some (rd tp flt A') ∧ FC h' 27 (as.foldl cfDo c) ∧ gE rp h h'
  | none => r = some (.int 0) ∧ ∃ F A' : Nat, F < 999 ∧ h'[rp]? = some (rd tp (Int32.ofNat F) A') ∧ gE rp h h'
/-- a number's place lies behind it -/
theorem nxtS_le {T : Nat → Int32} {p v p' : Nat} {lo hi : Int} (h : nxtS T p lo hi = some (v, p')) : p + 2 ≤ p' ∧ p' ≤ p + 3 ∧ v ≤ 99 ∧ lo ≤ v ∧ (v : Int) ≤ hi := by
  unfold nxtS at h
  by_cases hb : T p = 32
  · rw [if_pos hb] at h
    unfold numS at h
    cases hd : dgS (T (p + 1)) with
    | none => rw [hd] at h; cases h
    | some dv =>
      obtain ⟨d1, -⟩ := dgS_lt hd
      rw [hd] at h
      dsimp only at h
      cases hd2 : dgS (T (p + 1 + 1)) with
      | none =>
        rw [hd2] at h
        dsimp only at h
        split at h
        · cases h
          omega
        · cases h
      | some ev =>
        obtain ⟨d2, -⟩ := dgS_lt hd2
        rw [hd2] at h
        dsimp only at h
        split at h
        · cases h
          omega
        · cases h
  · rw [if_neg hb] at h
    cases h
def plcS (T : Nat → Int32) (p k : Nat) (lo hi : Int) : Option (List Act × Nat) := match nxtS T p lo hi with
  | some (v, p') => some ([((2, k, v, 0) : Act)], p')
  | none => none
theorem s_readPlace {d : Nat} {h : sHp} {rp tp ep n A : Nat} {ot flt : Int32} {el : Nat → Int64} {c : CF} {wh lo hi : Int32} {K : Nat} (hr : h[rp]? = some (rd tp flt A)) (ht : h[tp]? = some (.inr (7, [.int ot, .int (Int32.ofNat n), .ref ep]))) (he : h[ep]? = some (.inl (1, 100, .inr (.inl el)))) (hn : n ≤ 100) (F : FC h 27 c) (h1 : 79 ≤ rp) (h2 : 44 ≤ tp ∧ tp < 60) (h3 : 44 ≤ ep ∧ ep < 60) (hA : A < 890) (hK : K ≤ 3) (hw : wh.toInt = K) : sDo (d + 5) 76 [.ref rp, .int wh, .int lo, .int hi] h (qRd rp tp flt h c (plcS (tx el n) A K lo.toInt hi.toInt)) := by
  have hn1 := s_readNumber (d := 0) (lo := lo) (hi := hi) hr ht he hn (by omega) (by omega) (show rp ≠ tp by omega) (show rp ≠ ep by omega)
  unfold plcS
  refine sDo_of (d := d + 4) (nL := 5) (L := [some (.ref rp), some (.int wh), some (.int lo), some (.int hi), none]) rfl rfl ?_
  refine g_aload_n (i := 0) rfl rfl ?_
  refine g_iload_n (i := 2) rfl rfl ?_
  refine g_iload_n (i := 3) rfl rfl ?_
  refine g_virt2 rfl (by decide) rfl hr rfl (Nat.le_of_ble_eq_true rfl) (sDo_up (d := 4) (by omega) hn1) (fun r h_1 hq => ?_)
  cases hs1 : nxtS (tx el n) A lo.toInt hi.toInt with
  | none =>
    rw [hs1] at hq
    obtain ⟨rfl, F1, A1, hF1, rfl⟩ := hq
    refine g_istore (i := 4) (L1 := [some (.ref rp), some (.int wh), some (.int lo), some (.int hi), some (.int (Int32.ofInt (-1)))]) rfl (Nat.le_of_ble_eq_true rfl) rfl ?_
    refine g_iload (i := 4) rfl rfl ?_
    refine g_iconst (n := (-1)) rfl ?_
    refine g_icmp_ne 16 rfl rfl (fun hc => absurd hc (by exact fun z => z rfl)) (fun _ => ?_)
    refine g_iconst (n := 0) rfl ?_
    refine g_ireturn (ty := .boolean) rfl rfl (by decide) ?_
    exact ⟨rfl, F1, A1, hF1, s_set_eq hr, (by first | exact gE_rp gE_rfl | exact gE_rp (gE_rp gE_rfl) | exact gE_rp (gE_rp (gE_rp gE_rfl)) | exact gE_rp G)⟩
  | some vp =>
    obtain ⟨v1, A1⟩ := vp
    rw [hs1] at hq
    obtain ⟨rfl, rfl⟩ := hq
    have b1 := nxtS_le hs1
    have ev1 := ofN_toInt (n := v1) (by omega)
    have em1 : (Int32.ofInt (-1)).toInt = -1 := rfl
    refine g_istore (i := 4) (L1 := [some (.ref rp), some (.int wh), some (.int lo), some (.int hi), some (.int (Int32.ofNat v1))]) rfl (Nat.le_of_ble_eq_true rfl) rfl ?_
    refine g_iload (i := 4) rfl rfl ?_
    refine g_iconst (n := (-1)) rfl ?_
    refine g_icmp_ne 16 rfl rfl (fun _ => ?_) (fun hc => absurd hc (by intro z; rw [z, em1] at ev1; omega))
    have r1 : (h.set rp (rd tp flt A1))[rp]? = some (rd tp flt A1) := s_set_eq hr
    refine g_aload_n (i := 0) rfl rfl ?_
    refine g_getfield (v := .ref 27) rfl r1 (by decide) rfl ?_
    refine g_iload_n (i := 1) rfl rfl ?_
    refine g_iload (i := 4) rfl rfl ?_
    refine g_virt2 rfl (by decide) rfl (FC_out F (show rp < 27 ∨ 27 + 10 < rp by omega)).1 rfl (Nat.le_of_ble_eq_true rfl) (sDo_up (d := 1) (by omega) (s_setPlace (d := 0) (v := Int32.ofNat v1) (FC_out F (show rp < 27 ∨ 27 + 10 < rp by omega)) hK hw)) (fun r h9 hq => ?_)
    obtain ⟨rfl, rfl⟩ := hq
    refine g_iconst (n := 1) rfl ?_
    refine g_ireturn (ty := .boolean) rfl rfl (by decide) ?_
    exact ⟨rfl, by rw [s_set_ne (by omega)]; exact r1, FC_0 (FC_out F (show rp < 27 ∨ 27 + 10 < rp by omega)), gE_f (gE_rp gE_rfl) (fE_set fE_rfl (by omega) (by omega))⟩
def sizS (T : Nat → Int32) (p : Nat) : Option (List Act × Nat) := match nxtS T p 2 8 with
  | some (w, p1) => (match nxtS T p1 2 8 with
    | some (hh, p2) => some ([((0, w, hh, 0) : Act)], p2)
    | none => none)
  | none => none
theorem s_readSize {d : Nat} {h : sHp} {rp tp ep n A : Nat} {ot flt : Int32} {el : Nat → Int64} {c : CF} (hr : h[rp]? = some (rd tp flt A)) (ht : h[tp]? = some (.inr (7, [.int ot, .int (Int32.ofNat n), .ref ep]))) (he : h[ep]? = some (.inl (1, 100, .inr (.inl el)))) (hn : n ≤ 100) (F : FC h 27 c) (h1 : 79 ≤ rp) (h2 : 44 ≤ tp ∧ tp < 60) (h3 : 44 ≤ ep ∧ ep < 60) (hA : A < 890) : sDo (d + 5) 74 [.ref rp] h (qRd rp tp flt h c (sizS (tx el n) A)) := by
  have hn1 := s_readNumber (d := 0) (lo := Int32.ofInt 2) (hi := (Int8.ofInt 8).toInt32) hr ht he hn (by omega) (by omega) (show rp ≠ tp by omega) (show rp ≠ ep by omega)
  rw [show (Int32.ofInt 2).toInt = 2 from rfl, show (Int8.ofInt 8).toInt32.toInt = 8 from rfl] at hn1
  unfold sizS
  refine sDo_of (d := d + 4) (nL := 3) (L := [some (.ref rp), none, none]) rfl rfl ?_
  refine g_aload_n (i := 0) rfl rfl ?_
  refine g_iconst (n := 2) rfl ?_
  refine g_bipush (n := 8) rfl ?_
  refine g_virt2 rfl (by decide) rfl hr rfl (Nat.le_of_ble_eq_true rfl) (sDo_up (d := 4) (by omega) hn1) (fun r h_1 hq => ?_)
  cases hs1 : nxtS (tx el n) A 2 8 with
  | none =>
    rw [hs1] at hq
    obtain ⟨rfl, F1, A1, hF1, rfl⟩ := hq
    refine g_istore_n (i := 1) (L1 := [some (.ref rp), some (.int (Int32.ofInt (-1))), none]) rfl (Nat.le_of_ble_eq_true rfl) rfl ?_
    refine g_iload_n (i := 1) rfl rfl ?_
    refine g_iconst (n := (-1)) rfl ?_
    refine g_icmp_ne 17 rfl rfl (fun hc => absurd hc (by exact fun z => z rfl)) (fun _ => ?_)
    refine g_iconst (n := (-1)) rfl ?_
    refine g_goto 24 rfl rfl ?_
    refine g_istore_n (i := 2) (L1 := [some (.ref rp), some (.int (Int32.ofInt (-1))), some (.int (Int32.ofInt (-1)))]) rfl (Nat.le_of_ble_eq_true rfl) rfl ?_
    refine g_iload_n (i := 2) rfl rfl ?_
    refine g_iconst (n := (-1)) rfl ?_
    refine g_icmp_ne 32 rfl rfl (fun hc => absurd hc (by exact fun z => z rfl)) (fun _ => ?_)
    refine g_iconst (n := 0) rfl ?_
    refine g_ireturn (ty := .boolean) rfl rfl (by decide) ?_
    exact ⟨rfl, F1, A1, hF1, s_set_eq hr, (by first | exact gE_rp gE_rfl | exact gE_rp (gE_rp gE_rfl) | exact gE_rp (gE_rp (gE_rp gE_rfl)) | exact gE_rp G)⟩
  | some vp =>
    obtain ⟨v1, A1⟩ := vp
    rw [hs1] at hq
    obtain ⟨rfl, rfl⟩ := hq
    have b1 := nxtS_le hs1
    have ev1 := ofN_toInt (n := v1) (by omega)
    have em1 : (Int32.ofInt (-1)).toInt = -1 := rfl
    refine g_istore_n (i := 1) (L1 := [some (.ref rp), some (.int (Int32.ofNat v1)), none]) rfl (Nat.le_of_ble_eq_true rfl) rfl ?_
    refine g_iload_n (i := 1) rfl rfl ?_
    refine g_iconst (n := (-1)) rfl ?_
    refine g_icmp_ne 17 rfl rfl (fun _ => ?_) (fun hc => absurd hc (by intro z; rw [z, em1] at ev1; omega))
    have r1 : (h.set rp (rd tp flt A1))[rp]? = some (rd tp flt A1) := s_set_eq hr
    have hn2 := s_readNumber (d := 0) (lo := Int32.ofInt 2) (hi := (Int8.ofInt 8).toInt32) r1 (by rw [s_set_ne (by omega)]; exact ht) (by rw [s_set_ne (by omega)]; exact he) hn (by omega) (by omega) (show rp ≠ tp by omega) (show rp ≠ ep by omega)
    rw [show (Int32.ofInt 2).toInt = 2 from rfl, show (Int8.ofInt 8).toInt32.toInt = 8 from rfl] at hn2
    dsimp only
    refine g_aload_n (i := 0) rfl rfl ?_
    refine g_iconst (n := 2) rfl ?_
    refine g_bipush (n := 8) rfl ?_
    refine g_virt2 rfl (by decide) rfl r1 rfl (Nat.le_of_ble_eq_true rfl) (sDo_up (d := 4) (by omega) hn2) (fun r h_2 hq => ?_)
    cases hs2 : nxtS (tx el n) A1 2 8 with
    | none =>
      rw [hs2] at hq
      obtain ⟨rfl, F1, A1, hF1, rfl⟩ := hq
      refine g_istore_n (i := 2) (L1 := [some (.ref rp), some (.int (Int32.ofNat v1)), some (.int (Int32.ofInt (-1)))]) rfl (Nat.le_of_ble_eq_true rfl) rfl ?_
      refine g_iload_n (i := 2) rfl rfl ?_
      refine g_iconst (n := (-1)) rfl ?_
      refine g_icmp_ne 32 rfl rfl (fun hc => absurd hc (by exact fun z => z rfl)) (fun _ => ?_)
      refine g_iconst (n := 0) rfl ?_
      refine g_ireturn (ty := .boolean) rfl rfl (by decide) ?_
      exact ⟨rfl, F1, _, hF1, s_set_eq r1, (by first | exact gE_rp gE_rfl | exact gE_rp (gE_rp gE_rfl) | exact gE_rp (gE_rp (gE_rp gE_rfl)) | exact gE_rp G)⟩
    | some vp =>
      obtain ⟨v2, A2⟩ := vp
      rw [hs2] at hq
      obtain ⟨rfl, rfl⟩ := hq
      have b2 := nxtS_le hs2
      have ev2 := ofN_toInt (n := v2) (by omega)
      have em1 : (Int32.ofInt (-1)).toInt = -1 := rfl
      refine g_istore_n (i := 2) (L1 := [some (.ref rp), some (.int (Int32.ofNat v1)), some (.int (Int32.ofNat v2))]) rfl (Nat.le_of_ble_eq_true rfl) rfl ?_
      refine g_iload_n (i := 2) rfl rfl ?_
      refine g_iconst (n := (-1)) rfl ?_
      refine g_icmp_ne 32 rfl rfl (fun _ => ?_) (fun hc => absurd hc (by intro z; rw [z, em1] at ev2; omega))
      have r2 : ((h.set rp (rd tp flt A1)).set rp (rd tp flt A2))[rp]? = some (rd tp flt A2) := s_set_eq r1
      have F2 := FC_out (x := rd tp flt A2) (FC_out (x := rd tp flt A1) F (show rp < 27 ∨ 27 + 10 < rp by omega)) (show rp < 27 ∨ 27 + 10 < rp by omega)
      refine g_aload_n (i := 0) rfl rfl ?_
      refine g_getfield (v := .ref 27) rfl r2 (by decide) rfl ?_
      refine g_iload_n (i := 1) rfl rfl ?_
      refine g_iload_n (i := 2) rfl rfl ?_
      refine g_virt2 rfl (by decide) rfl F2.1 rfl (Nat.le_of_ble_eq_true rfl) (sDo_up (d := 2) (by omega) (s_resize (d := 0) (w := Int32.ofNat v1) (hh := Int32.ofNat v2) F2 (by omega) (by omega))) (fun r h9 hq => ?_)
      obtain ⟨rfl, q1, q2⟩ := hq
      refine g_iconst (n := 1) rfl ?_
      refine g_ireturn (ty := .boolean) rfl rfl (by decide) ?_
      exact ⟨rfl, fE_at q2 r2 (by omega), q1, gE_f (gE_rp (gE_rp gE_rfl)) q2⟩
