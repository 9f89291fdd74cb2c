section
/-! ===== texts: items ===== -/
/-- what an item does: (0, w, h, _) size; (1, v, from, to) soil; (2, what, v, _) a place; (3, share, _, _) an heir; (4, heir, soil, v) a worth -/
def Act : Type := Nat × Nat × Nat × Nat
def cfDo (c : CF) (a : Act) : CF := match a with
  | (0, w, hh, _) => cfSize (Int32.ofNat w) (Int32.ofNat hh) c
  | (1, v, fr, to) => (c.1, c.2.1, giveS c.2.2.1 6 ((lowS (Int32.ofNat (to + 1)) &&& c.2.1 2) &&& ((lowS (Int32.ofNat fr) &&& c.2.1 2) ^^^ Int64.ofNat 18446744073709551615)) v, c.2.2.2)
  | (2, k, v, _) => (upd c.1 (7 + k) (Int32.ofNat v), c.2)
  | (3, share, _, _) => cfHeir (c.1 11).toNatClampNeg (Int32.ofNat share) c
  | (_, i, v, x) => (c.1, c.2.1, c.2.2.1, c.2.2.2.1, (fun k => if k = i then upd (c.2.2.2.2.1 i) v (Int32.ofNat x) else c.2.2.2.2.1 k), c.2.2.2.2.2)
def gE (rp : Nat) (h h' : sHp) : Prop := h'.length = h.length ∧ ∀ q, (q < 27 ∨ 37 < q) → q ≠ rp → h'[q]? = h[q]?
theorem gE_rfl {rp : Nat} {h : sHp} : gE rp h h := ⟨rfl, fun _ _ _ => rfl⟩
theorem gE_tr {rp : Nat} {h h1 h2 : sHp} (a : gE rp h h1) (b : gE rp h1 h2) : gE rp h h2 := ⟨b.1.trans a.1, fun q x y => (b.2 q x y).trans (a.2 q x y)⟩
theorem gE_rp {rp : Nat} {h h1 : sHp} {x : va_E} (a : gE rp h h1) : gE rp h (h1.set rp x) := ⟨by rw [List.length_set]; exact a.1, fun q y z => by rw [s_set_ne (Ne.symm z)]; exact a.2 q y z⟩
theorem gE_f {rp : Nat} {h h1 h2 : sHp} (a : gE rp h h1) (b : fE 27 h1 h2) : gE rp h h2 := ⟨b.1.trans a.1, fun q y z => (b.2 q (by omega)).trans (a.2 q y z)⟩
theorem fE_at {p q : Nat} {h h1 : sHp} {x : va_E} (a : fE p h h1) (hx : h[q]? = some x) (hq : q < p ∨ p + 10 < q) : h1[q]? = some x := (a.2 q hq).trans hx
def qRd (rp tp : Nat) (flt : Int32) (h : sHp) (c : CF) (q : Option (List Act × Nat)) (r : Option Value) (h' : sHp) : Prop := match q with
  | some (as, A') => r = some (.int 1) ∧ h'[rp]? = some (rd tp flt A') ∧ FC h' 27 (as.foldl cfDo c) ∧ gE rp h h'
  | none => r = some (.int 0) ∧ ∃ F A' : Nat, F < 999 ∧ h'[rp]? = some (rd tp (Int32.ofNat F) A') ∧ gE rp h h'
/-- a number's place lies behind it -/
theorem nxtS_le {T : Nat → Int32} {p v p' : Nat} {lo hi : Int} (h : nxtS T p lo hi = some (v, p')) : p + 2 ≤ p' ∧ p' ≤ p + 3 ∧ v ≤ 99 ∧ lo ≤ v ∧ (v : Int) ≤ hi := by
  unfold nxtS at h
  by_cases hb : T p = 32
  · rw [if_pos hb] at h
    unfold numS at h
    cases hd : dgS (T (p + 1)) with
    | none => rw [hd] at h; cases h
    | some dv =>
      obtain ⟨d1, -⟩ := dgS_lt hd
      rw [hd] at h
      dsimp only at h
      cases hd2 : dgS (T (p + 1 + 1)) with
      | none =>
        rw [hd2] at h
        dsimp only at h
        split at h
        · cases h
          omega
        · cases h
      | some ev =>
        obtain ⟨d2, -⟩ := dgS_lt hd2
        rw [hd2] at h
        dsimp only at h
        split at h
        · cases h
          omega
        · cases h
  · rw [if_neg hb] at h
    cases h
def plcS (T : Nat → Int32) (p k : Nat) (lo hi : Int) : Option (List Act × Nat) := match nxtS T p lo hi with
  | some (v, p') => some ([((2, k, v, 0) : Act)], p')
  | none => none
theorem s_readPlace {d : Nat} {h : sHp} {rp tp ep n A : Nat} {ot flt : Int32} {el : Nat → Int64} {c : CF} {wh lo hi : Int32} {K : Nat} (hr : h[rp]? = some (rd tp flt A)) (ht : h[tp]? = some (.inr (7, [.int ot, .int (Int32.ofNat n), .ref ep]))) (he : h[ep]? = some (.inl (1, 100, .inr (.inl el)))) (hn : n ≤ 100) (F : FC h 27 c) (h1 : 79 ≤ rp) (h2 : 44 ≤ tp ∧ tp < 60) (h3 : 44 ≤ ep ∧ ep < 60) (hA : A < 890) (hK : K ≤ 3) (hw : wh.toInt = K) : sDo (d + 5) 76 [.ref rp, .int wh, .int lo, .int hi] h (qRd rp tp flt h c (plcS (tx el n) A K lo.toInt hi.toInt)) := by
  have hn1 := s_readNumber (d := 0) (lo := lo) (hi := hi) hr ht he hn (by omega) (by omega) (show rp ≠ tp by omega) (show rp ≠ ep by omega)
  unfold plcS
  refine sDo_of (d := d + 4) (nL := 5) (L := [some (.ref rp), some (.int wh), some (.int lo), some (.int hi), none]) rfl rfl ?_
  refine g_aload_n (i := 0) rfl rfl ?_
  refine g_iload_n (i := 2) rfl rfl ?_
  refine g_iload_n (i := 3) rfl rfl ?_
  refine g_virt2 rfl (by decide) rfl hr rfl (Nat.le_of_ble_eq_true rfl) (sDo_up (d := 4) (by omega) hn1) (fun r h_1 hq => ?_)
  cases hs1 : nxtS (tx el n) A lo.toInt hi.toInt with
  | none =>
    rw [hs1] at hq
    obtain ⟨rfl, F1, A1, hF1, rfl⟩ := hq
    refine g_istore (i := 4) (L1 := [some (.ref rp), some (.int wh), some (.int lo), some (.int hi), some (.int (Int32.ofInt (-1)))]) rfl (Nat.le_of_ble_eq_true rfl) rfl ?_
    refine g_iload (i := 4) rfl rfl ?_
    refine g_iconst (n := (-1)) rfl ?_
    refine g_icmp_ne 16 rfl rfl (fun hc => absurd hc (by exact fun z => z rfl)) (fun _ => ?_)
    refine g_iconst (n := 0) rfl ?_
    refine g_ireturn (ty := .boolean) rfl rfl (by decide) ?_
    exact ⟨rfl, F1, A1, hF1, s_set_eq hr, (by first | exact gE_rp gE_rfl | exact gE_rp (gE_rp gE_rfl) | exact gE_rp (gE_rp (gE_rp gE_rfl)) | exact gE_rp G)⟩
  | some vp =>
    obtain ⟨v1, A1⟩ := vp
    rw [hs1] at hq
    obtain ⟨rfl, rfl⟩ := hq
    have b1 := nxtS_le hs1
    have ev1 := ofN_toInt (n := v1) (by omega)
    have em1 : (Int32.ofInt (-1)).toInt = -1 := rfl
    refine g_istore (i := 4) (L1 := [some (.ref rp), some (.int wh), some (.int lo), some (.int hi), some (.int (Int32.ofNat v1))]) rfl (Nat.le_of_ble_eq_true rfl) rfl ?_
    refine g_iload (i := 4) rfl rfl ?_
    refine g_iconst (n := (-1)) rfl ?_
    refine g_icmp_ne 16 rfl rfl (fun _ => ?_) (fun hc => absurd hc (by intro z; rw [z, em1] at ev1; omega))
    have r1 : (h.set rp (rd tp flt A1))[rp]? = some (rd tp flt A1) := s_set_eq hr
    refine g_aload_n (i := 0) rfl rfl ?_
    refine g_getfield (v := .ref 27) rfl r1 (by decide) rfl ?_
    refine g_iload_n (i := 1) rfl rfl ?_
    refine g_iload (i := 4) rfl rfl ?_
    refine g_virt2 rfl (by decide) rfl (FC_out F (show rp < 27 ∨ 27 + 10 < rp by omega)).1 rfl (Nat.le_of_ble_eq_true rfl) (sDo_up (d := 1) (by omega) (s_setPlace (d := 0) (v := Int32.ofNat v1) (FC_out F (show rp < 27 ∨ 27 + 10 < rp by omega)) hK hw)) (fun r h9 hq => ?_)
    obtain ⟨rfl, rfl⟩ := hq
    refine g_iconst (n := 1) rfl ?_
    refine g_ireturn (ty := .boolean) rfl rfl (by decide) ?_
    exact ⟨rfl, by rw [s_set_ne (by omega)]; exact r1, FC_0 (FC_out F (show rp < 27 ∨ 27 + 10 < rp by omega)), gE_f (gE_rp gE_rfl) (fE_set fE_rfl (by omega) (by omega))⟩
def sizS (T : Nat → Int32) (p : Nat) : Option (List Act × Nat) := match nxtS T p 2 8 with
  | some (w, p1) => (match nxtS T p1 2 8 with
    | some (hh, p2) => some ([((0, w, hh, 0) : Act)], p2)
    | none => none)
  | none => none
theorem s_readSize {d : Nat} {h : sHp} {rp tp ep n A : Nat} {ot flt : Int32} {el : Nat → Int64} {c : CF} (hr : h[rp]? = some (rd tp flt A)) (ht : h[tp]? = some (.inr (7, [.int ot, .int (Int32.ofNat n), .ref ep]))) (he : h[ep]? = some (.inl (1, 100, .inr (.inl el)))) (hn : n ≤ 100) (F : FC h 27 c) (h1 : 79 ≤ rp) (h2 : 44 ≤ tp ∧ tp < 60) (h3 : 44 ≤ ep ∧ ep < 60) (hA : A < 890) : sDo (d + 5) 74 [.ref rp] h (qRd rp tp flt h c (sizS (tx el n) A)) := by
  have hn1 := s_readNumber (d := 0) (lo := Int32.ofInt 2) (hi := (Int8.ofInt 8).toInt32) hr ht he hn (by omega) (by omega) (show rp ≠ tp by omega) (show rp ≠ ep by omega)
  rw [show (Int32.ofInt 2).toInt = 2 from rfl, show (Int8.ofInt 8).toInt32.toInt = 8 from rfl] at hn1
  unfold sizS
  refine sDo_of (d := d + 4) (nL := 3) (L := [some (.ref rp), none, none]) rfl rfl ?_
  refine g_aload_n (i := 0) rfl rfl ?_
  refine g_iconst (n := 2) rfl ?_
  refine g_bipush (n := 8) rfl ?_
  refine g_virt2 rfl (by decide) rfl hr rfl (Nat.le_of_ble_eq_true rfl) (sDo_up (d := 4) (by omega) hn1) (fun r h_1 hq => ?_)
  cases hs1 : nxtS (tx el n) A 2 8 with
  | none =>
    rw [hs1] at hq
    obtain ⟨rfl, F1, A1, hF1, rfl⟩ := hq
    refine g_istore_n (i := 1) (L1 := [some (.ref rp), some (.int (Int32.ofInt (-1))), none]) rfl (Nat.le_of_ble_eq_true rfl) rfl ?_
    refine g_iload_n (i := 1) rfl rfl ?_
    refine g_iconst (n := (-1)) rfl ?_
    refine g_icmp_ne 17 rfl rfl (fun hc => absurd hc (by exact fun z => z rfl)) (fun _ => ?_)
    refine g_iconst (n := (-1)) rfl ?_
    refine g_goto 24 rfl rfl ?_
    refine g_istore_n (i := 2) (L1 := [some (.ref rp), some (.int (Int32.ofInt (-1))), some (.int (Int32.ofInt (-1)))]) rfl (Nat.le_of_ble_eq_true rfl) rfl ?_
    refine g_iload_n (i := 2) rfl rfl ?_
    refine g_iconst (n := (-1)) rfl ?_
    refine g_icmp_ne 32 rfl rfl (fun hc => absurd hc (by exact fun z => z rfl)) (fun _ => ?_)
    refine g_iconst (n := 0) rfl ?_
    refine g_ireturn (ty := .boolean) rfl rfl (by decide) ?_
    exact ⟨rfl, F1, A1, hF1, s_set_eq hr, (by first | exact gE_rp gE_rfl | exact gE_rp (gE_rp gE_rfl) | exact gE_rp (gE_rp (gE_rp gE_rfl)) | exact gE_rp G)⟩
  | some vp =>
    obtain ⟨v1, A1⟩ := vp
    rw [hs1] at hq
    obtain ⟨rfl, rfl⟩ := hq
    have b1 := nxtS_le hs1
    have ev1 := ofN_toInt (n := v1) (by omega)
    have em1 : (Int32.ofInt (-1)).toInt = -1 := rfl
    refine g_istore_n (i := 1) (L1 := [some (.ref rp), some (.int (Int32.ofNat v1)), none]) rfl (Nat.le_of_ble_eq_true rfl) rfl ?_
    refine g_iload_n (i := 1) rfl rfl ?_
    refine g_iconst (n := (-1)) rfl ?_
    refine g_icmp_ne 17 rfl rfl (fun _ => ?_) (fun hc => absurd hc (by intro z; rw [z, em1] at ev1; omega))
    have r1 : (h.set rp (rd tp flt A1))[rp]? = some (rd tp flt A1) := s_set_eq hr
    have hn2 := s_readNumber (d := 0) (lo := Int32.ofInt 2) (hi := (Int8.ofInt 8).toInt32) r1 (by rw [s_set_ne (by omega)]; exact ht) (by rw [s_set_ne (by omega)]; exact he) hn (by omega) (by omega) (show rp ≠ tp by omega) (show rp ≠ ep by omega)
    rw [show (Int32.ofInt 2).toInt = 2 from rfl, show (Int8.ofInt 8).toInt32.toInt = 8 from rfl] at hn2
    dsimp only
    refine g_aload_n (i := 0) rfl rfl ?_
    refine g_iconst (n := 2) rfl ?_
    refine g_bipush (n := 8) rfl ?_
    refine g_virt2 rfl (by decide) rfl r1 rfl (Nat.le_of_ble_eq_true rfl) (sDo_up (d := 4) (by omega) hn2) (fun r h_2 hq => ?_)
    cases hs2 : nxtS (tx el n) A1 2 8 with
    | none =>
      rw [hs2] at hq
      obtain ⟨rfl, F1, A1, hF1, rfl⟩ := hq
      refine g_istore_n (i := 2) (L1 := [some (.ref rp), some (.int (Int32.ofNat v1)), some (.int (Int32.ofInt (-1)))]) rfl (Nat.le_of_ble_eq_true rfl) rfl ?_
      refine g_iload_n (i := 2) rfl rfl ?_
      refine g_iconst (n := (-1)) rfl ?_
      refine g_icmp_ne 32 rfl rfl (fun hc => absurd hc (by exact fun z => z rfl)) (fun _ => ?_)
      refine g_iconst (n := 0) rfl ?_
      refine g_ireturn (ty := .boolean) rfl rfl (by decide) ?_
      exact ⟨rfl, F1, _, hF1, s_set_eq r1, (by first | exact gE_rp gE_rfl | exact gE_rp (gE_rp gE_rfl) | exact gE_rp (gE_rp (gE_rp gE_rfl)) | exact gE_rp G)⟩
    | some vp =>
      obtain ⟨v2, A2⟩ := vp
      rw [hs2] at hq
      obtain ⟨rfl, rfl⟩ := hq
      have b2 := nxtS_le hs2
      have ev2 := ofN_toInt (n := v2) (by omega)
      have em1 : (Int32.ofInt (-1)).toInt = -1 := rfl
      refine g_istore_n (i := 2) (L1 := [some (.ref rp), some (.int (Int32.ofNat v1)), some (.int (Int32.ofNat v2))]) rfl (Nat.le_of_ble_eq_true rfl) rfl ?_
      refine g_iload_n (i := 2) rfl rfl ?_
      refine g_iconst (n := (-1)) rfl ?_
      refine g_icmp_ne 32 rfl rfl (fun _ => ?_) (fun hc => absurd hc (by intro z; rw [z, em1] at ev2; omega))
      have r2 : ((h.set rp (rd tp flt A1)).set rp (rd tp flt A2))[rp]? = some (rd tp flt A2) := s_set_eq r1
      have F2 := FC_out (x := rd tp flt A2) (FC_out (x := rd tp flt A1) F (show rp < 27 ∨ 27 + 10 < rp by omega)) (show rp < 27 ∨ 27 + 10 < rp by omega)
      refine g_aload_n (i := 0) rfl rfl ?_
      refine g_getfield (v := .ref 27) rfl r2 (by decide) rfl ?_
      refine g_iload_n (i := 1) rfl rfl ?_
      refine g_iload_n (i := 2) rfl rfl ?_
      refine g_virt2 rfl (by decide) rfl F2.1 rfl (Nat.le_of_ble_eq_true rfl) (sDo_up (d := 2) (by omega) (s_resize (d := 0) (w := Int32.ofNat v1) (hh := Int32.ofNat v2) F2 (by omega) (by omega))) (fun r h9 hq => ?_)
      obtain ⟨rfl, q1, q2⟩ := hq
      refine g_iconst (n := 1) rfl ?_
      refine g_ireturn (ty := .boolean) rfl rfl (by decide) ?_
      exact ⟨rfl, fE_at q2 r2 (by omega), q1, gE_f (gE_rp (gE_rp gE_rfl)) q2⟩
end
section
/-! ===== texts: soil, heirs, items ===== -/
/-- width, height, heirs: what a text's items hang on -/
def Sg : Type := Nat × Nat × Nat
def sgI (c : CF) (s : Sg) : Prop := c.1 0 = Int32.ofNat s.1 ∧ c.1 1 = Int32.ofNat s.2.1 ∧ c.1 11 = Int32.ofNat s.2.2 ∧ 2 ≤ s.1 ∧ s.1 ≤ 8 ∧ 2 ≤ s.2.1 ∧ s.2.1 ≤ 8 ∧ s.2.2 ≤ 5
theorem sq_le {s : Sg} (h1 : s.1 ≤ 8) (h2 : s.2.1 ≤ 8) : s.1 * s.2.1 ≤ 64 := Nat.mul_le_mul h1 h2
theorem sq_ge {s : Sg} (h1 : 2 ≤ s.1) (h2 : 2 ≤ s.2.1) : 4 ≤ s.1 * s.2.1 := Nat.mul_le_mul h1 h2
theorem sg_sq {c : CF} {s : Sg} (q : sgI c s) : (c.1 0 * c.1 1).toInt = (s.1 * s.2.1 : Nat) ∧ (c.1 0 * c.1 1 - Int32.ofInt 1).toInt = ((s.1 * s.2.1 : Nat) : Int) - 1 := by
  obtain ⟨q1, q2, -, l1, l2, l3, l4, -⟩ := q
  have k1 := sq_le (s := s) l2 l4
  have k2 := sq_ge (s := s) l1 l3
  have e1 : (Int32.ofInt 1).toInt = 1 := rfl
  have m : (c.1 0 * c.1 1).toInt = (s.1 * s.2.1 : Nat) := by
    rw [q1, q2]
    have em : (Int32.ofNat s.1).toInt * (Int32.ofNat s.2.1).toInt = ((s.1 * s.2.1 : Nat) : Int) := by rw [ofN_toInt (by omega), ofN_toInt (by omega)]; exact (Int.natCast_mul ..).symm
    rw [i_mul (by rw [em]; omega) (by rw [em]; omega), em]
  exact ⟨m, by rw [i_sub (by rw [m, e1]; omega) (by rw [m, e1]; omega), m, e1]⟩
def soiS (T : Nat → Int32) (p : Nat) (m : Int) : Option (List Act × Nat) := match nxtS T p 0 5 with
  | some (v, p1) => (match nxtS T p1 0 m with
    | some (fr, p2) => (match nxtS T p2 fr m with
      | some (to, p3) => some ([((1, v, fr, to) : Act)], p3)
      | none => none)
    | none => none)
  | none => none
theorem s_readSoil {d : Nat} {h : sHp} {rp tp ep n A : Nat} {ot flt : Int32} {el : Nat → Int64} {c : CF} {s : Sg} (hr : h[rp]? = some (rd tp flt A)) (ht : h[tp]? = some (.inr (7, [.int ot, .int (Int32.ofNat n), .ref ep]))) (he : h[ep]? = some (.inl (1, 100, .inr (.inl el)))) (hn : n ≤ 100) (F : FC h 27 c) (h1 : 79 ≤ rp) (h2 : 44 ≤ tp ∧ tp < 60) (h3 : 44 ≤ ep ∧ ep < 60) (hA : A < 890) (hs : sgI c s) : sDo (d + 5) 75 [.ref rp] h (qRd rp tp flt h c (soiS (tx el n) A (((s.1 * s.2.1 : Nat) : Int) - 1))) := by
  have sq := sg_sq hs
  have sq64 := sq_le (s := s) hs.2.2.2.2.1 hs.2.2.2.2.2.2.1
  have em1 : (Int32.ofInt (-1)).toInt = -1 := rfl
  have e0 : (Int32.ofInt 0).toInt = 0 := rfl
  have hn1 := s_readNumber (d := 0) (lo := Int32.ofInt 0) (hi := Int32.ofInt 5) hr ht he hn (by omega) (by omega) (show rp ≠ tp by omega) (show rp ≠ ep by omega)
  rw [e0, show (Int32.ofInt 5).toInt = 5 from rfl] at hn1
  unfold soiS
  generalize hm : ((s.1 * s.2.1 : Nat) : Int) - 1 = m at sq
  refine sDo_of (d := d + 4) (nL := 4) (L := [some (.ref rp), none, none, none]) rfl rfl ?_
  refine g_aload_n (i := 0) rfl rfl ?_
  refine g_iconst (n := 0) rfl ?_
  refine g_iconst (n := 5) rfl ?_
  refine g_virt2 rfl (by decide) rfl hr rfl (Nat.le_of_ble_eq_true rfl) (sDo_up (d := 4) (by omega) hn1) (fun r h_1 hq => ?_)
  cases hs1 : nxtS (tx el n) A 0 5 with
  | none =>
    rw [hs1] at hq
    obtain ⟨rfl, F1, A1, hF1, rfl⟩ := hq
    refine g_istore_n (i := 1) (L1 := [some (.ref rp), some (.int (Int32.ofInt (-1))), none, none]) rfl (Nat.le_of_ble_eq_true rfl) rfl ?_
    refine g_iload_n (i := 1) rfl rfl ?_
    refine g_iconst (n := (-1)) rfl ?_
    refine g_icmp_ne 16 rfl rfl (fun hc => absurd hc (by exact fun z => z rfl)) (fun _ => ?_)
    refine g_iconst (n := (-1)) rfl ?_
    refine g_goto 30 rfl rfl ?_
    refine g_istore_n (i := 2) (L1 := [some (.ref rp), some (.int (Int32.ofInt (-1))), some (.int (Int32.ofInt (-1))), none]) rfl (Nat.le_of_ble_eq_true rfl) rfl ?_
    refine g_iload_n (i := 2) rfl rfl ?_
    refine g_iconst (n := (-1)) rfl ?_
    refine g_icmp_ne 40 rfl rfl (fun hc => absurd hc (by exact fun z => z rfl)) (fun _ => ?_)
    refine g_iconst (n := (-1)) rfl ?_
    refine g_goto 54 rfl rfl ?_
    refine g_istore_n (i := 3) (L1 := [some (.ref rp), some (.int (Int32.ofInt (-1))), some (.int (Int32.ofInt (-1))), some (.int (Int32.ofInt (-1)))]) rfl (Nat.le_of_ble_eq_true rfl) rfl ?_
    refine g_iload_n (i := 3) rfl rfl ?_
    refine g_iconst (n := (-1)) rfl ?_
    refine g_icmp_ne 62 rfl rfl (fun hc => absurd hc (by exact fun z => z rfl)) (fun _ => ?_)
    refine g_iconst (n := 0) rfl ?_
    refine g_ireturn (ty := .boolean) rfl rfl (by decide) ?_
    exact ⟨rfl, F1, _, hF1, s_set_eq hr, (by first | exact gE_rp gE_rfl | exact gE_rp (gE_rp gE_rfl) | exact gE_rp (gE_rp (gE_rp gE_rfl)) | exact gE_rp G)⟩
  | some vp =>
    obtain ⟨v1, A1⟩ := vp
    rw [hs1] at hq
    obtain ⟨rfl, rfl⟩ := hq
    have b1 := nxtS_le hs1
    have ev1 := ofN_toInt (n := v1) (by omega)
    have em1 : (Int32.ofInt (-1)).toInt = -1 := rfl
    refine g_istore_n (i := 1) (L1 := [some (.ref rp), some (.int (Int32.ofNat v1)), none, none]) rfl (Nat.le_of_ble_eq_true rfl) rfl ?_
    refine g_iload_n (i := 1) rfl rfl ?_
    refine g_iconst (n := (-1)) rfl ?_
    refine g_icmp_ne 16 rfl rfl (fun _ => ?_) (fun hc => absurd hc (by intro z; rw [z, em1] at ev1; omega))
    have r1 : (h.set rp (rd tp flt A1))[rp]? = some (rd tp flt A1) := s_set_eq hr
    have G1 := FC_out (x := rd tp flt A1) F (show rp < 27 ∨ 27 + 10 < rp by omega)
    have hn2 := s_readNumber (d := 0) (lo := Int32.ofInt 0) (hi := c.1 0 * c.1 1 - Int32.ofInt 1) r1 (by rw [s_set_ne (by omega)]; exact ht) (by rw [s_set_ne (by omega)]; exact he) hn (by omega) (by omega) (show rp ≠ tp by omega) (show rp ≠ ep by omega)
    rw [e0, sq.2] at hn2
    dsimp only
    refine g_aload_n (i := 0) rfl rfl ?_
    refine g_iconst (n := 0) rfl ?_
    refine g_aload_n (i := 0) rfl rfl ?_
    refine g_getfield (v := .ref 27) rfl r1 (by decide) rfl ?_
    refine g_virt0 (Qc := fun r h' => h' = _ ∧ r = some (.int (c.1 0 * c.1 1))) rfl (by decide) rfl G1.1 rfl (Nat.le_of_ble_eq_true rfl) (sDo_up (d := 1) (by omega) (s_squares (d := 0) G1)) (fun r h9 hq => ?_)
    obtain ⟨rfl, rfl⟩ := hq
    refine g_iconst (n := 1) rfl ?_
    refine g_isub rfl ?_
    refine g_virt2 rfl (by decide) rfl r1 rfl (Nat.le_of_ble_eq_true rfl) (sDo_up (d := 4) (by omega) hn2) (fun r h_2 hq => ?_)
    cases hs2 : nxtS (tx el n) A1 0 m with
    | none =>
      rw [hs2] at hq
      obtain ⟨rfl, F1, A1, hF1, rfl⟩ := hq
      refine g_istore_n (i := 2) (L1 := [some (.ref rp), some (.int (Int32.ofNat v1)), some (.int (Int32.ofInt (-1))), none]) rfl (Nat.le_of_ble_eq_true rfl) rfl ?_
      refine g_iload_n (i := 2) rfl rfl ?_
      refine g_iconst (n := (-1)) rfl ?_
      refine g_icmp_ne 40 rfl rfl (fun hc => absurd hc (by exact fun z => z rfl)) (fun _ => ?_)
      refine g_iconst (n := (-1)) rfl ?_
      refine g_goto 54 rfl rfl ?_
      refine g_istore_n (i := 3) (L1 := [some (.ref rp), some (.int (Int32.ofNat v1)), some (.int (Int32.ofInt (-1))), some (.int (Int32.ofInt (-1)))]) rfl (Nat.le_of_ble_eq_true rfl) rfl ?_
      refine g_iload_n (i := 3) rfl rfl ?_
      refine g_iconst (n := (-1)) rfl ?_
      refine g_icmp_ne 62 rfl rfl (fun hc => absurd hc (by exact fun z => z rfl)) (fun _ => ?_)
      refine g_iconst (n := 0) rfl ?_
      refine g_ireturn (ty := .boolean) rfl rfl (by decide) ?_
      exact ⟨rfl, F1, _, hF1, s_set_eq r1, (by first | exact gE_rp gE_rfl | exact gE_rp (gE_rp gE_rfl) | exact gE_rp (gE_rp (gE_rp gE_rfl)) | exact gE_rp G)⟩
    | some vp =>
      obtain ⟨v2, A2⟩ := vp
      rw [hs2] at hq
      obtain ⟨rfl, rfl⟩ := hq
      have b2 := nxtS_le hs2
      have ev2 := ofN_toInt (n := v2) (by omega)
      have em1 : (Int32.ofInt (-1)).toInt = -1 := rfl
      refine g_istore_n (i := 2) (L1 := [some (.ref rp), some (.int (Int32.ofNat v1)), some (.int (Int32.ofNat v2)), none]) rfl (Nat.le_of_ble_eq_true rfl) rfl ?_
      refine g_iload_n (i := 2) rfl rfl ?_
      refine g_iconst (n := (-1)) rfl ?_
      refine g_icmp_ne 40 rfl rfl (fun _ => ?_) (fun hc => absurd hc (by intro z; rw [z, em1] at ev2; omega))
      have r2 : ((h.set rp (rd tp flt A1)).set rp (rd tp flt A2))[rp]? = some (rd tp flt A2) := s_set_eq r1
      have G2 := FC_out (x := rd tp flt A2) G1 (show rp < 27 ∨ 27 + 10 < rp by omega)
      have hn3 := s_readNumber (d := 0) (lo := Int32.ofNat v2) (hi := c.1 0 * c.1 1 - Int32.ofInt 1) r2 (by rw [s_set_ne (by omega), s_set_ne (by omega)]; exact ht) (by rw [s_set_ne (by omega), s_set_ne (by omega)]; exact he) hn (by omega) (by omega) (show rp ≠ tp by omega) (show rp ≠ ep by omega)
      rw [ev2, sq.2] at hn3
      dsimp only
      refine g_aload_n (i := 0) rfl rfl ?_
      refine g_iload_n (i := 2) rfl rfl ?_
      refine g_aload_n (i := 0) rfl rfl ?_
      refine g_getfield (v := .ref 27) rfl r2 (by decide) rfl ?_
      refine g_virt0 (Qc := fun r h' => h' = _ ∧ r = some (.int (c.1 0 * c.1 1))) rfl (by decide) rfl G2.1 rfl (Nat.le_of_ble_eq_true rfl) (sDo_up (d := 1) (by omega) (s_squares (d := 0) G2)) (fun r h9 hq => ?_)
      obtain ⟨rfl, rfl⟩ := hq
      refine g_iconst (n := 1) rfl ?_
      refine g_isub rfl ?_
      refine g_virt2 rfl (by decide) rfl r2 rfl (Nat.le_of_ble_eq_true rfl) (sDo_up (d := 4) (by omega) hn3) (fun r h_3 hq => ?_)
      cases hs3 : nxtS (tx el n) A2 v2 m with
      | none =>
        rw [hs3] at hq
        obtain ⟨rfl, F1, A1, hF1, rfl⟩ := hq
        refine g_istore_n (i := 3) (L1 := [some (.ref rp), some (.int (Int32.ofNat v1)), some (.int (Int32.ofNat v2)), some (.int (Int32.ofInt (-1)))]) rfl (Nat.le_of_ble_eq_true rfl) rfl ?_
        refine g_iload_n (i := 3) rfl rfl ?_
        refine g_iconst (n := (-1)) rfl ?_
        refine g_icmp_ne 62 rfl rfl (fun hc => absurd hc (by exact fun z => z rfl)) (fun _ => ?_)
        refine g_iconst (n := 0) rfl ?_
        refine g_ireturn (ty := .boolean) rfl rfl (by decide) ?_
        exact ⟨rfl, F1, _, hF1, s_set_eq r2, (by first | exact gE_rp gE_rfl | exact gE_rp (gE_rp gE_rfl) | exact gE_rp (gE_rp (gE_rp gE_rfl)) | exact gE_rp G)⟩
      | some vp =>
        obtain ⟨v3, A3⟩ := vp
        rw [hs3] at hq
        obtain ⟨rfl, rfl⟩ := hq
        have b3 := nxtS_le hs3
        have ev3 := ofN_toInt (n := v3) (by omega)
        have em1 : (Int32.ofInt (-1)).toInt = -1 := rfl
        refine g_istore_n (i := 3) (L1 := [some (.ref rp), some (.int (Int32.ofNat v1)), some (.int (Int32.ofNat v2)), some (.int (Int32.ofNat v3))]) rfl (Nat.le_of_ble_eq_true rfl) rfl ?_
        refine g_iload_n (i := 3) rfl rfl ?_
        refine g_iconst (n := (-1)) rfl ?_
        refine g_icmp_ne 62 rfl rfl (fun _ => ?_) (fun hc => absurd hc (by intro z; rw [z, em1] at ev3; omega))
        have r3 : (((h.set rp (rd tp flt A1)).set rp (rd tp flt A2)).set rp (rd tp flt A3))[rp]? = some (rd tp flt A3) := s_set_eq r2
        have G3 := FC_out (x := rd tp flt A3) G2 (show rp < 27 ∨ 27 + 10 < rp by omega)
        refine g_aload_n (i := 0) rfl rfl ?_
        refine g_getfield (v := .ref 27) rfl r3 (by decide) rfl ?_
        refine g_aload_n (i := 0) rfl rfl ?_
        refine g_getfield (v := .ref 27) rfl r3 (by decide) rfl ?_
        refine g_iload_n (i := 3) rfl rfl ?_
        refine g_iconst (n := 1) rfl ?_
        refine g_iadd rfl ?_
        rw [ofN_add (by omega)]
        refine g_virt1 (Qc := fun r h' => h' = _ ∧ r = some (.long (lowS (Int32.ofNat (v3 + 1)) &&& c.2.1 2))) rfl (by decide) rfl G3.1 rfl (Nat.le_of_ble_eq_true rfl) (sDo_up (d := 2) (by omega) (s_below (d := 0) G3)) (fun r h9 hq => ?_)
        obtain ⟨rfl, rfl⟩ := hq
        refine g_aload_n (i := 0) rfl rfl ?_
        refine g_getfield (v := .ref 27) rfl r3 (by decide) rfl ?_
        refine g_iload_n (i := 2) rfl rfl ?_
        refine g_virt1 (Qc := fun r h' => h' = _ ∧ r = some (.long (lowS (Int32.ofNat v2) &&& c.2.1 2))) rfl (by decide) rfl G3.1 rfl (Nat.le_of_ble_eq_true rfl) (sDo_up (d := 2) (by omega) (s_below (d := 0) G3)) (fun r h9 hq => ?_)
        obtain ⟨rfl, rfl⟩ := hq
        refine g_ldc2_w (j := 18446744073709551615) rfl ?_
        refine g_lxor rfl ?_
        refine g_land rfl ?_
        refine g_iload_n (i := 1) rfl rfl ?_
        refine g_virt2 rfl (by decide) rfl G3.1 rfl (Nat.le_of_ble_eq_true rfl) (sDo_up (d := 2) (by omega) (s_laySoil (d := 0) G3 ev1 (by omega))) (fun r h9 hq => ?_)
        obtain ⟨rfl, rfl⟩ := hq
        refine g_iconst (n := 1) rfl ?_
        refine g_ireturn (ty := .boolean) rfl rfl (by decide) ?_
        exact ⟨rfl, by rw [s_set_ne (by omega)]; exact r3, FC_1 G3, gE_f (gE_rp (gE_rp (gE_rp gE_rfl))) (fE_set fE_rfl (by omega) (by omega))⟩
def wrtS (T : Nat → Int32) (E : Nat) : Nat → Nat → Nat → Option (List Act × Nat)
  | 0, _, p => some ([], p)
  | f + 1, v, p => match nxtS T p 0 99 with
    | some (x, p') => (match wrtS T E f (v + 1) p' with
      | some (as, p2) => some ((((4, E, v, x) : Act) :: as), p2)
      | none => none)
    | none => none
theorem s_readHeir_go {d : Nat} {h0 : sHp} {rp tp ep n E : Nat} {ot flt : Int32} {el : Nat → Int64} {share : Int32} (hn : n ≤ 100) (h1 : 79 ≤ rp) (h2 : 44 ≤ tp ∧ tp < 60) (h3 : 44 ≤ ep ∧ ep < 60) (hE : E < 5) (hd : 4 ≤ d) : ∀ (f v A : Nat) (h : sHp) (c : CF) (o4 : Option Value), f + v = 6 → A + 3 * f < 890 → h[rp]? = some (rd tp flt A) → h[tp]? = some (.inr (7, [.int ot, .int (Int32.ofNat n), .ref ep])) → h[ep]? = some (.inl (1, 100, .inr (.inl el))) → FC h 27 c → gE rp h0 h → sGo none 77 d 41 [some (.ref rp), some (.int share), some (.int (Int32.ofNat E)), some (.int (Int32.ofNat v)), o4] [] h (qRd rp tp flt h0 c (wrtS (tx el n) E f v A)) := by
  have em1 : (Int32.ofInt (-1)).toInt = -1 := rfl
  have e6 : (Int8.ofInt 6).toInt32.toInt = 6 := rfl
  have eE := ofN_toInt (n := E) (by omega)
  intro f
  induction f with
  | zero =>
    intro v A h c o4 hv hA hr ht he F G
    have ev := ofN_toInt (n := v) (by omega)
    refine g_iload_n (i := 3) rfl rfl ?_
    refine g_bipush (n := 6) rfl ?_
    refine g_icmp_ge 83 rfl rfl (fun _ => ?_) (fun hc => absurd hc (by rw [i_le, e6, ev]; omega))
    refine g_iconst (n := 1) rfl ?_
    refine g_ireturn (ty := .boolean) rfl rfl (by decide) ?_
    exact ⟨rfl, hr, F, G⟩
  | succ f ih =>
    intro v A h c o4 hv hA hr ht he F G
    have ev := ofN_toInt (n := v) (by omega)
    have hn1 := s_readNumber (d := 0) (lo := Int32.ofInt 0) (hi := (Int8.ofInt 99).toInt32) hr ht he hn (by omega) (by omega) (show rp ≠ tp by omega) (show rp ≠ ep by omega)
    rw [show (Int32.ofInt 0).toInt = 0 from rfl, show (Int8.ofInt 99).toInt32.toInt = 99 from rfl] at hn1
    unfold wrtS
    refine g_iload_n (i := 3) rfl rfl ?_
    refine g_bipush (n := 6) rfl ?_
    refine g_icmp_ge 83 rfl rfl (fun hc => absurd hc (by rw [i_le, e6, ev]; omega)) (fun _ => ?_)
    refine g_aload_n (i := 0) rfl rfl ?_
    refine g_iconst (n := 0) rfl ?_
    refine g_bipush (n := 99) rfl ?_
    refine g_virt2 rfl (by decide) rfl hr rfl (Nat.le_of_ble_eq_true rfl) (sDo_up (d := 4) (by omega) hn1) (fun r h_1 hq => ?_)
    cases hs1 : nxtS (tx el n) A 0 99 with
    | none =>
      rw [hs1] at hq
      obtain ⟨rfl, F1, A1, hF1, rfl⟩ := hq
      refine g_istore (i := 4) (L1 := [some (.ref rp), some (.int share), some (.int (Int32.ofNat E)), some (.int (Int32.ofNat v)), some (.int (Int32.ofInt (-1)))]) rfl (Nat.le_of_ble_eq_true rfl) rfl ?_
      refine g_iload (i := 4) rfl rfl ?_
      refine g_iconst (n := (-1)) rfl ?_
      refine g_icmp_ne 64 rfl rfl (fun hc => absurd hc (by exact fun z => z rfl)) (fun _ => ?_)
      refine g_iconst (n := 0) rfl ?_
      refine g_ireturn (ty := .boolean) rfl rfl (by decide) ?_
      exact ⟨rfl, F1, _, hF1, s_set_eq hr, (by first | exact gE_rp gE_rfl | exact gE_rp (gE_rp gE_rfl) | exact gE_rp (gE_rp (gE_rp gE_rfl)) | exact gE_rp G)⟩
    | some vp =>
      obtain ⟨v1, A1⟩ := vp
      rw [hs1] at hq
      obtain ⟨rfl, rfl⟩ := hq
      have b1 := nxtS_le hs1
      have ev1 := ofN_toInt (n := v1) (by omega)
      have em1 : (Int32.ofInt (-1)).toInt = -1 := rfl
      refine g_istore (i := 4) (L1 := [some (.ref rp), some (.int share), some (.int (Int32.ofNat E)), some (.int (Int32.ofNat v)), some (.int (Int32.ofNat v1))]) rfl (Nat.le_of_ble_eq_true rfl) rfl ?_
      refine g_iload (i := 4) rfl rfl ?_
      refine g_iconst (n := (-1)) rfl ?_
      refine g_icmp_ne 64 rfl rfl (fun _ => ?_) (fun hc => absurd hc (by intro z; rw [z, em1] at ev1; omega))
      have r1 : (h.set rp (rd tp flt A1))[rp]? = some (rd tp flt A1) := s_set_eq hr
      have G1 := FC_out (x := rd tp flt A1) F (show rp < 27 ∨ 27 + 10 < rp by omega)
      have G1c := G1
      obtain ⟨a0, -, -, ⟨fw, a3, a4⟩, a5, -⟩ := G1c
      have fE5 : va_rf (fw (Int32.ofNat E).toNatClampNeg) = .ref (27 + 4 + E) := by rw [i_nat eE, a4 E hE]; rfl
      refine g_aload_n (i := 0) rfl rfl ?_
      refine g_getfield (v := .ref 27) rfl r1 (by decide) rfl ?_
      refine g_getfield (v := .ref (27 + 3)) rfl a0 (by decide) rfl ?_
      refine g_iload_n (i := 2) rfl rfl ?_
      refine g_aaload rfl a3 (by decide) (i_in (by omega) (by omega)) ?_
      rw [fE5]
      refine g_iload_n (i := 3) rfl rfl ?_
      refine g_iload (i := 4) rfl rfl ?_
      refine g_iastore (h1 := (h.set rp (rd tp flt A1)).set (27 + 4 + E) (.inl (0, 6, .inl (upd (c.2.2.2.2.1 E) v (Int32.ofNat v1))))) rfl (a5 E hE) (i_in (by omega) (by omega)) (by rw [i_nat ev]) ?_
      refine g_iinc (i := 3) (L1 := [some (.ref rp), some (.int share), some (.int (Int32.ofNat E)), some (.int ((Int32.ofNat v) + Int32.ofInt 1)), some (.int (Int32.ofNat v1))]) rfl rfl rfl ?_
      rw [ofN_add (by omega)]
      refine g_goto 41 rfl rfl ?_
      have key := ih (v + 1) A1 ((h.set rp (rd tp flt A1)).set (27 + 4 + E) (.inl (0, 6, .inl (upd (c.2.2.2.2.1 E) v (Int32.ofNat v1))))) _ (some (.int (Int32.ofNat v1))) (by omega) (by omega) (by rw [s_set_ne (by omega)]; exact r1) (by rw [s_set_ne (by omega), s_set_ne (by omega)]; exact ht) (by rw [s_set_ne (by omega), s_set_ne (by omega)]; exact he) (FC_4 G1 hE) (gE_f (gE_rp G) (fE_set fE_rfl (by omega) (by omega)))
      dsimp only
      cases hw : wrtS (tx el n) E f (v + 1) A1 with
      | none => rw [hw] at key; exact key
      | some q => obtain ⟨as, p2⟩ := q; rw [hw] at key; exact key
def heiS (T : Nat → Int32) (p E : Nat) : Option (List Act × Nat) := match nxtS T p 1 9 with
  | some (share, p1) => (match wrtS T E 6 0 p1 with
    | some (as, p2) => some ((((3, share, 0, 0) : Act) :: as), p2)
    | none => none)
  | none => none
theorem s_readHeir {d : Nat} {h : sHp} {rp tp ep n A : Nat} {ot flt : Int32} {el : Nat → Int64} {c : CF} {E : Nat} (hr : h[rp]? = some (rd tp flt A)) (ht : h[tp]? = some (.inr (7, [.int ot, .int (Int32.ofNat n), .ref ep]))) (he : h[ep]? = some (.inl (1, 100, .inr (.inl el)))) (hn : n ≤ 100) (F : FC h 27 c) (h1 : 79 ≤ rp) (h2 : 44 ≤ tp ∧ tp < 60) (h3 : 44 ≤ ep ∧ ep < 60) (hA : A < 860) (hI : c.1 11 = Int32.ofNat E) (hE : E < 5) : sDo (d + 5) 77 [.ref rp] h (qRd rp tp flt h c (heiS (tx el n) A E)) := by
  have em1 : (Int32.ofInt (-1)).toInt = -1 := rfl
  have eE := ofN_toInt (n := E) (by omega)
  have eE1 := ofN_toInt (n := E + 1) (by omega)
  have hn1 := s_readNumber (d := 0) (lo := Int32.ofInt 1) (hi := (Int8.ofInt 9).toInt32) hr ht he hn (by omega) (by omega) (show rp ≠ tp by omega) (show rp ≠ ep by omega)
  rw [show (Int32.ofInt 1).toInt = 1 from rfl, show (Int8.ofInt 9).toInt32.toInt = 9 from rfl] at hn1
  unfold heiS
  refine sDo_of (d := d + 4) (nL := 5) (L := [some (.ref rp), none, none, none, none]) rfl rfl ?_
  refine g_aload_n (i := 0) rfl rfl ?_
  refine g_iconst (n := 1) rfl ?_
  refine g_bipush (n := 9) rfl ?_
  refine g_virt2 rfl (by decide) rfl hr rfl (Nat.le_of_ble_eq_true rfl) (sDo_up (d := 4) (by omega) hn1) (fun r h_1 hq => ?_)
  cases hs1 : nxtS (tx el n) A 1 9 with
  | none =>
    rw [hs1] at hq
    obtain ⟨rfl, F1, A1, hF1, rfl⟩ := hq
    have r1 : (h.set rp (rd tp (Int32.ofNat F1) A1))[rp]? = some (rd tp (Int32.ofNat F1) A1) := s_set_eq hr
    have G1 := FC_out (x := rd tp (Int32.ofNat F1) A1) F (show rp < 27 ∨ 27 + 10 < rp by omega)
    refine g_istore_n (i := 1) (L1 := [some (.ref rp), some (.int (Int32.ofInt (-1))), none, none, none]) rfl (Nat.le_of_ble_eq_true rfl) rfl ?_
    refine g_iload_n (i := 1) rfl rfl ?_
    refine g_iconst (n := (-1)) rfl ?_
    refine g_icmp_ne 17 rfl rfl (fun hc => absurd hc (by exact fun z => z rfl)) (fun _ => ?_)
    refine g_iconst (n := (-1)) rfl ?_
    refine g_goto 25 rfl rfl ?_
    refine g_istore_n (i := 2) (L1 := [some (.ref rp), some (.int (Int32.ofInt (-1))), some (.int (Int32.ofInt (-1))), none, none]) rfl (Nat.le_of_ble_eq_true rfl) rfl ?_
    refine g_aload_n (i := 0) rfl rfl ?_
    refine g_getfield (v := .ref 27) rfl r1 (by decide) rfl ?_
    refine g_iload_n (i := 2) rfl rfl ?_
    refine g_virt1 (Qc := fun r h' => h' = _ ∧ r = some (.int 0)) rfl (by decide) rfl G1.1 rfl (Nat.le_of_ble_eq_true rfl) (sDo_up (d := 1) (by omega) (s_isHeir3 (d := 0) G1 (by rw [em1, if_neg (by omega)]))) (fun r h9 hq => ?_)
    obtain ⟨rfl, rfl⟩ := hq
    refine g_if_ne 39 rfl rfl (fun hc => absurd hc (by decide)) (fun _ => ?_)
    refine g_iconst (n := 0) rfl ?_
    refine g_ireturn (ty := .boolean) rfl rfl (by decide) ?_
    exact ⟨rfl, F1, _, hF1, r1, (by first | exact gE_rp gE_rfl | exact gE_rp (gE_rp gE_rfl) | exact gE_rp (gE_rp (gE_rp gE_rfl)) | exact gE_rp G)⟩
  | some vp =>
    obtain ⟨v1, A1⟩ := vp
    rw [hs1] at hq
    obtain ⟨rfl, rfl⟩ := hq
    have b1 := nxtS_le hs1
    have ev1 := ofN_toInt (n := v1) (by omega)
    have em1 : (Int32.ofInt (-1)).toInt = -1 := rfl
    refine g_istore_n (i := 1) (L1 := [some (.ref rp), some (.int (Int32.ofNat v1)), none, none, none]) rfl (Nat.le_of_ble_eq_true rfl) rfl ?_
    refine g_iload_n (i := 1) rfl rfl ?_
    refine g_iconst (n := (-1)) rfl ?_
    refine g_icmp_ne 17 rfl rfl (fun _ => ?_) (fun hc => absurd hc (by intro z; rw [z, em1] at ev1; omega))
    have r1 : (h.set rp (rd tp flt A1))[rp]? = some (rd tp flt A1) := s_set_eq hr
    have G1 := FC_out (x := rd tp flt A1) F (show rp < 27 ∨ 27 + 10 < rp by omega)
    refine g_aload_n (i := 0) rfl rfl ?_
    refine g_getfield (v := .ref 27) rfl r1 (by decide) rfl ?_
    refine g_iload_n (i := 1) rfl rfl ?_
    refine g_virt1 rfl (by decide) rfl G1.1 rfl (Nat.le_of_ble_eq_true rfl) (sDo_up (d := 1) (by omega) (s_addHeir (d := 0) G1 hI hE)) (fun r h9 hq => ?_)
    obtain ⟨rfl, q1, q2⟩ := hq
    have r2 := fE_at q2 r1 (by omega)
    refine g_istore_n (i := 2) (L1 := [some (.ref rp), some (.int (Int32.ofNat v1)), some (.int (Int32.ofNat E)), none, none]) rfl (Nat.le_of_ble_eq_true rfl) rfl ?_
    refine g_aload_n (i := 0) rfl rfl ?_
    refine g_getfield (v := .ref 27) rfl r2 (by decide) rfl ?_
    refine g_iload_n (i := 2) rfl rfl ?_
    refine g_virt1 (Qc := fun r h' => h' = h9 ∧ r = some (.int 1)) rfl (by decide) rfl q1.1 rfl (Nat.le_of_ble_eq_true rfl) (sDo_up (d := 1) (by omega) (s_isHeir3 (d := 0) q1 (by show (1 : Int32) = if 0 ≤ (Int32.ofNat E).toInt ∧ (Int32.ofNat E).toInt < (Int32.ofNat (E + 1)).toInt ∧ (Int32.ofNat E).toInt < 5 then 1 else 0; rw [eE, eE1, if_pos (by omega)]))) (fun r h8 hq => ?_)
    obtain ⟨rfl, rfl⟩ := hq
    refine g_if_ne 39 rfl rfl (fun _ => ?_) (fun hc => absurd hc (by decide))
    refine g_iconst (n := 0) rfl ?_
    refine g_istore_n (i := 3) (L1 := [some (.ref rp), some (.int (Int32.ofNat v1)), some (.int (Int32.ofNat E)), some (.int (Int32.ofInt 0)), none]) rfl (Nat.le_of_ble_eq_true rfl) rfl ?_
    have key := s_readHeir_go (d := d + 4) (h0 := h) (ot := ot) (el := el) (n := n) (share := Int32.ofNat v1) hn h1 h2 h3 hE (by omega) 6 0 A1 _ _ none rfl (by omega) r2 (fE_at q2 (by rw [s_set_ne (by omega)]; exact ht) (by omega)) (fE_at q2 (by rw [s_set_ne (by omega)]; exact he) (by omega)) q1 (gE_f (gE_rp gE_rfl) q2)
    dsimp only
    have hcl : (c.1 11).toNatClampNeg = E := by rw [hI]; exact i_nat eE
    cases hw : wrtS (tx el n) E 6 0 A1 with
    | none => rw [hw] at key; exact key
    | some q =>
      obtain ⟨as, p2⟩ := q
      rw [hw] at key
      have e : cfDo c (3, v1, 0, 0) = cfHeir E (Int32.ofNat v1) c := by
        show cfHeir (c.1 11).toNatClampNeg (Int32.ofNat v1) c = _
        rw [hcl]
      have e2 : List.foldl cfDo c (((3, v1, 0, 0) : Act) :: as) = List.foldl cfDo (cfHeir E (Int32.ofNat v1) c) as := congrArg (fun z => List.foldl cfDo z as) e
      unfold qRd at key ⊢
      dsimp only at key ⊢
      rw [e2]
      exact key
end
section
/-! ===== texts: an item, all items ===== -/
def sgDo (s : Sg) (a : Act) : Sg := match a with
  | (0, w, hh, _) => (w, hh, s.2.2)
  | (3, _, _, _) => (s.1, s.2.1, s.2.2 + 1)
  | _ => s
def itmS (T : Nat → Int32) (p : Nat) (s : Sg) : Option (List Act × Nat) := match wdS T p (if s.2.2 < 5 then 7 else 6) 0 with
  | some 0 => sizS T (p + wlS 0)
  | some 1 => soiS T (p + wlS 1) (((s.1 * s.2.1 : Nat) : Int) - 1)
  | some 2 => plcS T (p + wlS 2) 0 0 3
  | some 3 => plcS T (p + wlS 3) 1 0 (((s.1 * s.2.1 : Nat) : Int) - 1)
  | some 4 => plcS T (p + wlS 4) 2 0 (((s.1 * s.2.1 : Nat) : Int) - 1)
  | some 5 => plcS T (p + wlS 5) 3 0 20
  | some 6 => heiS T (p + wlS 6) s.2.2
  | _ => none
theorem wdS_lt {T : Nat → Int32} {p : Nat} : ∀ {f v x : Nat}, wdS T p f v = some x → v ≤ x ∧ x < v + f := by
  intro f
  induction f with
  | zero => intro v x h; cases h
  | succ f ih =>
    intro v x h
    unfold wdS at h
    split at h
    · cases h
      omega
    · have := ih h
      omega
theorem qRd_tr {rp tp : Nat} {flt : Int32} {h h1 h' : sHp} {c : CF} {q : Option (List Act × Nat)} {r : Option Value} (g : gE rp h h1) (a : qRd rp tp flt h1 c q r h') : qRd rp tp flt h c q r h' := by
  unfold qRd at a ⊢
  split at a
  · exact ⟨a.1, a.2.1, a.2.2.1, gE_tr g a.2.2.2⟩
  · obtain ⟨b1, F1, A1, b2, b3, b4⟩ := a
    exact ⟨b1, F1, A1, b2, b3, gE_tr g b4⟩
theorem qRd_b {rp tp : Nat} {flt : Int32} {h h' : sHp} {c : CF} {q : Option (List Act × Nat)} {r : Option Value} (a : qRd rp tp flt h c q r h') : r = some (.int 0) ∨ r = some (.int 1) := by
  unfold qRd at a
  split at a
  · exact Or.inr a.1
  · exact Or.inl a.1
theorem s_readItem {d : Nat} {h : sHp} {rp tp ep n A : Nat} {ot flt : Int32} {el : Nat → Int64} {c : CF} {s : Sg} (hr : h[rp]? = some (rd tp flt A)) (ht : h[tp]? = some (.inr (7, [.int ot, .int (Int32.ofNat n), .ref ep]))) (he : h[ep]? = some (.inl (1, 100, .inr (.inl el)))) (hn : n ≤ 100) (F : FC h 27 c) (h1 : 79 ≤ rp) (h2 : 44 ≤ tp ∧ tp < 60) (h3 : 44 ≤ ep ∧ ep < 60) (hA : A < 850) (hs : sgI c s) : sDo (d + 7) 68 [.ref rp] h (qRd rp tp flt h c (itmS (tx el n) A s)) := by
  have sq := sg_sq hs
  have hwd := s_readWord (d := 0) (H := s.2.2) hr ht he hn (by omega) F.1 (show some (Value.int (c.1 11)) = _ by rw [hs.2.2.1]) hs.2.2.2.2.2.2.2
  have hF : sFk 68 4 = some (.tableswitch 108 0 6 #[44, 49, 54, 62, 78, 94, 103]) := rfl
  unfold itmS
  refine sDo_of (d := d + 6) (nL := 1) (L := [some (.ref rp)]) rfl rfl ?_
  refine g_aload_n (i := 0) rfl rfl ?_
  refine g_virt0 rfl (by decide) rfl hr rfl (Nat.le_of_ble_eq_true rfl) (sDo_up (d := 6) (by omega) hwd) (fun r h_1 hq => ?_)
  cases hw : wdS (tx el n) A (if s.2.2 < 5 then 7 else 6) 0 with
  | none =>
    rw [hw] at hq
    obtain ⟨rfl, F1, A1, hF1, rfl⟩ := hq
    refine go_jmp (pc1 := 112) (st1 := []) hF rfl rfl ?_
    refine g_iconst (n := 0) rfl ?_
    refine g_ireturn (ty := .boolean) rfl rfl (by decide) ?_
    exact ⟨rfl, F1, A1, hF1, s_set_eq hr, (by first | exact gE_rp gE_rfl | exact gE_rp (gE_rp gE_rfl) | exact gE_rp (gE_rp (gE_rp gE_rfl)) | exact gE_rp G)⟩
  | some v =>
    rw [hw] at hq
    obtain ⟨rfl, rfl⟩ := hq
    have vl := wdS_lt hw
    have v7 : v < 7 := by
      by_cases c5 : s.2.2 < 5
      · rw [if_pos c5] at vl; omega
      · rw [if_neg c5] at vl; omega
    have wl := wlS_le v
    have r1 : (h.set rp (rd tp flt (A + wlS v)))[rp]? = some (rd tp flt (A + wlS v)) := s_set_eq hr
    have t1 : (h.set rp (rd tp flt (A + wlS v)))[tp]? = some (.inr (7, [.int ot, .int (Int32.ofNat n), .ref ep])) := by rw [s_set_ne (by omega)]; exact ht
    have p1 : (h.set rp (rd tp flt (A + wlS v)))[ep]? = some (.inl (1, 100, .inr (.inl el))) := by rw [s_set_ne (by omega)]; exact he
    have G1 := FC_out (x := rd tp flt (A + wlS v)) F (show rp < 27 ∨ 27 + 10 < rp by omega)
    have E1 : gE rp h (h.set rp (rd tp flt (A + wlS v))) := gE_rp gE_rfl
    have h6 : v = 6 → s.2.2 < 5 := fun z => by
      by_cases c5 : s.2.2 < 5
      · exact c5
      · rw [if_neg c5] at vl; omega
    match v, v7, wl, r1, t1, p1, G1, E1, h6 with
  | 0, _, wl, r1, t1, p1, G1, E1, h6 =>
    refine go_jmp (pc1 := 48) (st1 := []) hF rfl rfl ?_
    refine g_aload_n (i := 0) rfl rfl ?_
    refine g_virt0 rfl (by decide) rfl r1 rfl (Nat.le_of_ble_eq_true rfl) (sDo_up (d := 5) (by omega) (s_readSize (d := 0) r1 t1 p1 hn G1 h1 h2 h3 (by omega))) (fun r h_2 hq => ?_)
    have hb := qRd_b hq
    have hq := qRd_tr E1 hq
    rcases hb with rfl | rfl
    · refine g_ireturn (ty := .boolean) rfl rfl (by decide) ?_
      exact hq
    · refine g_ireturn (ty := .boolean) rfl rfl (by decide) ?_
      exact hq
  | 1, _, wl, r1, t1, p1, G1, E1, h6 =>
    refine go_jmp (pc1 := 53) (st1 := []) hF rfl rfl ?_
    refine g_aload_n (i := 0) rfl rfl ?_
    refine g_virt0 rfl (by decide) rfl r1 rfl (Nat.le_of_ble_eq_true rfl) (sDo_up (d := 5) (by omega) (s_readSoil (d := 0) r1 t1 p1 hn G1 h1 h2 h3 (by omega) hs)) (fun r h_2 hq => ?_)
    have hb := qRd_b hq
    have hq := qRd_tr E1 hq
    rcases hb with rfl | rfl
    · refine g_ireturn (ty := .boolean) rfl rfl (by decide) ?_
      exact hq
    · refine g_ireturn (ty := .boolean) rfl rfl (by decide) ?_
      exact hq
  | 2, _, wl, r1, t1, p1, G1, E1, h6 =>
    refine go_jmp (pc1 := 58) (st1 := []) hF rfl rfl ?_
    refine g_aload_n (i := 0) rfl rfl ?_
    refine g_iconst (n := 0) rfl ?_
    refine g_iconst (n := 0) rfl ?_
    refine g_iconst (n := 3) rfl ?_
    have hpl := s_readPlace (d := 0) (wh := Int32.ofInt 0) (lo := Int32.ofInt 0) (hi := Int32.ofInt 3) (K := 0) r1 t1 p1 hn G1 h1 h2 h3 (by omega) (by decide) rfl
    rw [show (Int32.ofInt 0).toInt = 0 from rfl, show (Int32.ofInt 3).toInt = 3 from rfl] at hpl
    refine g_virt3 rfl (by decide) rfl r1 rfl (Nat.le_of_ble_eq_true rfl) (sDo_up (d := 5) (by omega) (hpl)) (fun r h_2 hq => ?_)
    have hb := qRd_b hq
    have hq := qRd_tr E1 hq
    rcases hb with rfl | rfl
    · refine g_ireturn (ty := .boolean) rfl rfl (by decide) ?_
      exact hq
    · refine g_ireturn (ty := .boolean) rfl rfl (by decide) ?_
      exact hq
  | 3, _, wl, r1, t1, p1, G1, E1, h6 =>
    refine go_jmp (pc1 := 66) (st1 := []) hF rfl rfl ?_
    refine g_aload_n (i := 0) rfl rfl ?_
    refine g_iconst (n := 1) rfl ?_
    refine g_iconst (n := 0) rfl ?_
    refine g_aload_n (i := 0) rfl rfl ?_
    refine g_getfield (v := .ref 27) rfl r1 (by decide) rfl ?_
    refine g_virt0 (Qc := fun r h' => h' = _ ∧ r = some (.int (c.1 0 * c.1 1))) rfl (by decide) rfl G1.1 rfl (Nat.le_of_ble_eq_true rfl) (sDo_up (d := 1) (by omega) (s_squares (d := 0) G1)) (fun r h9 hq => ?_)
    obtain ⟨rfl, rfl⟩ := hq
    refine g_iconst (n := 1) rfl ?_
    refine g_isub rfl ?_
    have hpl := s_readPlace (d := 0) (wh := Int32.ofInt 1) (lo := Int32.ofInt 0) (hi := c.1 0 * c.1 1 - Int32.ofInt 1) (K := 1) r1 t1 p1 hn G1 h1 h2 h3 (by omega) (by decide) rfl
    rw [show (Int32.ofInt 0).toInt = 0 from rfl, sq.2] at hpl
    refine g_virt3 rfl (by decide) rfl r1 rfl (Nat.le_of_ble_eq_true rfl) (sDo_up (d := 5) (by omega) (hpl)) (fun r h_2 hq => ?_)
    have hb := qRd_b hq
    have hq := qRd_tr E1 hq
    rcases hb with rfl | rfl
    · refine g_ireturn (ty := .boolean) rfl rfl (by decide) ?_
      exact hq
    · refine g_ireturn (ty := .boolean) rfl rfl (by decide) ?_
      exact hq
  | 4, _, wl, r1, t1, p1, G1, E1, h6 =>
    refine go_jmp (pc1 := 82) (st1 := []) hF rfl rfl ?_
    refine g_aload_n (i := 0) rfl rfl ?_
    refine g_iconst (n := 2) rfl ?_
    refine g_iconst (n := 0) rfl ?_
    refine g_aload_n (i := 0) rfl rfl ?_
    refine g_getfield (v := .ref 27) rfl r1 (by decide) rfl ?_
    refine g_virt0 (Qc := fun r h' => h' = _ ∧ r = some (.int (c.1 0 * c.1 1))) rfl (by decide) rfl G1.1 rfl (Nat.le_of_ble_eq_true rfl) (sDo_up (d := 1) (by omega) (s_squares (d := 0) G1)) (fun r h9 hq => ?_)
    obtain ⟨rfl, rfl⟩ := hq
    refine g_iconst (n := 1) rfl ?_
    refine g_isub rfl ?_
    have hpl := s_readPlace (d := 0) (wh := Int32.ofInt 2) (lo := Int32.ofInt 0) (hi := c.1 0 * c.1 1 - Int32.ofInt 1) (K := 2) r1 t1 p1 hn G1 h1 h2 h3 (by omega) (by decide) rfl
    rw [show (Int32.ofInt 0).toInt = 0 from rfl, sq.2] at hpl
    refine g_virt3 rfl (by decide) rfl r1 rfl (Nat.le_of_ble_eq_true rfl) (sDo_up (d := 5) (by omega) (hpl)) (fun r h_2 hq => ?_)
    have hb := qRd_b hq
    have hq := qRd_tr E1 hq
    rcases hb with rfl | rfl
    · refine g_ireturn (ty := .boolean) rfl rfl (by decide) ?_
      exact hq
    · refine g_ireturn (ty := .boolean) rfl rfl (by decide) ?_
      exact hq
  | 5, _, wl, r1, t1, p1, G1, E1, h6 =>
    refine go_jmp (pc1 := 98) (st1 := []) hF rfl rfl ?_
    refine g_aload_n (i := 0) rfl rfl ?_
    refine g_iconst (n := 3) rfl ?_
    refine g_iconst (n := 0) rfl ?_
    refine g_bipush (n := 20) rfl ?_
    have hpl := s_readPlace (d := 0) (wh := Int32.ofInt 3) (lo := Int32.ofInt 0) (hi := (Int8.ofInt 20).toInt32) (K := 3) r1 t1 p1 hn G1 h1 h2 h3 (by omega) (by decide) rfl
    rw [show (Int32.ofInt 0).toInt = 0 from rfl, show ((Int8.ofInt 20).toInt32).toInt = 20 from rfl] at hpl
    refine g_virt3 rfl (by decide) rfl r1 rfl (Nat.le_of_ble_eq_true rfl) (sDo_up (d := 5) (by omega) (hpl)) (fun r h_2 hq => ?_)
    have hb := qRd_b hq
    have hq := qRd_tr E1 hq
    rcases hb with rfl | rfl
    · refine g_ireturn (ty := .boolean) rfl rfl (by decide) ?_
      exact hq
    · refine g_ireturn (ty := .boolean) rfl rfl (by decide) ?_
      exact hq
  | 6, _, wl, r1, t1, p1, G1, E1, h6 =>
    refine go_jmp (pc1 := 107) (st1 := []) hF rfl rfl ?_
    refine g_aload_n (i := 0) rfl rfl ?_
    refine g_virt0 rfl (by decide) rfl r1 rfl (Nat.le_of_ble_eq_true rfl) (sDo_up (d := 5) (by omega) (s_readHeir (d := 0) r1 t1 p1 hn G1 h1 h2 h3 (by omega) hs.2.2.1 (h6 rfl))) (fun r h_2 hq => ?_)
    have hb := qRd_b hq
    have hq := qRd_tr E1 hq
    rcases hb with rfl | rfl
    · refine g_ireturn (ty := .boolean) rfl rfl (by decide) ?_
      exact hq
    · refine g_ireturn (ty := .boolean) rfl rfl (by decide) ?_
      exact hq
  | k + 7, v7, _, _, _, _, _, _, _ => exact absurd v7 (by omega)
theorem sg_wrt {T : Nat → Int32} {E : Nat} : ∀ {f v p : Nat} {as : List Act} {p2 : Nat} {c : CF} {s : Sg}, wrtS T E f v p = some (as, p2) → sgI c s → sgI (as.foldl cfDo c) (as.foldl sgDo s) ∧ p ≤ p2 ∧ p2 ≤ p + 3 * f := by
  intro f
  induction f with
  | zero =>
    intro v p as p2 c s h q
    cases h
    exact ⟨q, Nat.le_refl _, Nat.le_refl _⟩
  | succ f ih =>
    intro v p as p2 c s h q
    unfold wrtS at h
    cases h1 : nxtS T p 0 99 with
    | none => rw [h1] at h; cases h
    | some vp =>
      obtain ⟨x, p'⟩ := vp
      have b := nxtS_le h1
      rw [h1] at h
      dsimp only at h
      cases h2 : wrtS T E f (v + 1) p' with
      | none => rw [h2] at h; cases h
      | some q2 =>
        obtain ⟨bs, p3⟩ := q2
        rw [h2] at h
        cases h
        have k := ih (c := cfDo c (4, E, v, x)) (s := sgDo s (4, E, v, x)) h2 q
        exact ⟨k.1, by omega, by omega⟩
theorem sg_itm {T : Nat → Int32} {p p2 : Nat} {as : List Act} {c : CF} {s : Sg} (h : itmS T p s = some (as, p2)) (q : sgI c s) : sgI (as.foldl cfDo c) (as.foldl sgDo s) ∧ p + 1 ≤ p2 ∧ p2 ≤ p + 40 := by
  have q' := q
  obtain ⟨q1, q2, q3, q4, q5, q6, q7, q8⟩ := q'
  have plc : ∀ {p1 k : Nat} {lo hi : Int}, k ≤ 3 → plcS T p1 k lo hi = some (as, p2) → sgI (as.foldl cfDo c) (as.foldl sgDo s) ∧ p1 + 1 ≤ p2 ∧ p2 ≤ p1 + 3 := by
    intro p1 k lo hi hk h
    unfold plcS at h
    cases h1 : nxtS T p1 lo hi with
    | none => rw [h1] at h; cases h
    | some vp =>
      obtain ⟨x, p'⟩ := vp
      have b := nxtS_le h1
      rw [h1] at h
      cases h
      exact ⟨⟨(u_ne (show (0 : Nat) ≠ 7 + k by omega)).trans q1, (u_ne (show (1 : Nat) ≠ 7 + k by omega)).trans q2, (u_ne (show (11 : Nat) ≠ 7 + k by omega)).trans q3, q4, q5, q6, q7, q8⟩, by omega, by omega⟩
  unfold itmS at h
  cases hw : wdS T p (if s.2.2 < 5 then 7 else 6) 0 with
  | none => rw [hw] at h; cases h
  | some v =>
    rw [hw] at h
    have vl := wdS_lt hw
    have wl := wlS_le v
    have v7 : v < 7 := by
      by_cases c5 : s.2.2 < 5
      · rw [if_pos c5] at vl; omega
      · rw [if_neg c5] at vl; omega
    have h6 : v = 6 → s.2.2 < 5 := fun z => by
      by_cases c5 : s.2.2 < 5
      · exact c5
      · rw [if_neg c5] at vl; omega
    match v, v7, wl, h6, h with
    | 0, _, wl, _, h =>
      have h : sizS T (p + wlS 0) = some (as, p2) := h
      unfold sizS at h
      cases h1 : nxtS T (p + wlS 0) 2 8 with
      | none => rw [h1] at h; cases h
      | some vp =>
        obtain ⟨x, p'⟩ := vp
        have b := nxtS_le h1
        rw [h1] at h
        dsimp only at h
        cases h2 : nxtS T p' 2 8 with
        | none => rw [h2] at h; cases h
        | some vp2 =>
          obtain ⟨y, p3⟩ := vp2
          have b2 := nxtS_le h2
          rw [h2] at h
          cases h
          exact ⟨⟨rfl, rfl, q3, show 2 ≤ x by omega, show x ≤ 8 by omega, show 2 ≤ y by omega, show y ≤ 8 by omega, q8⟩, by omega, by omega⟩
    | 1, _, wl, _, h =>
      have h : soiS T (p + wlS 1) (((s.1 * s.2.1 : Nat) : Int) - 1) = some (as, p2) := h
      unfold soiS at h
      cases h1 : nxtS T (p + wlS 1) 0 5 with
      | none => rw [h1] at h; cases h
      | some vp =>
        obtain ⟨x, p'⟩ := vp
        have b := nxtS_le h1
        rw [h1] at h
        dsimp only at h
        cases h2 : nxtS T p' 0 (((s.1 * s.2.1 : Nat) : Int) - 1) with
        | none => rw [h2] at h; cases h
        | some vp2 =>
          obtain ⟨y, p3⟩ := vp2
          have b2 := nxtS_le h2
          rw [h2] at h
          dsimp only at h
          cases h3 : nxtS T p3 y (((s.1 * s.2.1 : Nat) : Int) - 1) with
          | none => rw [h3] at h; cases h
          | some vp3 =>
            obtain ⟨z, p4⟩ := vp3
            have b3 := nxtS_le h3
            rw [h3] at h
            cases h
            exact ⟨q, by omega, by omega⟩
    | 2, _, wl, _, h => have k := plc (by decide) h; exact ⟨k.1, by omega, by omega⟩
    | 3, _, wl, _, h => have k := plc (by decide) h; exact ⟨k.1, by omega, by omega⟩
    | 4, _, wl, _, h => have k := plc (by decide) h; exact ⟨k.1, by omega, by omega⟩
    | 5, _, wl, _, h => have k := plc (by decide) h; exact ⟨k.1, by omega, by omega⟩
    | 6, _, wl, h6, h =>
      have h5 := h6 rfl
      have h : heiS T (p + wlS 6) s.2.2 = some (as, p2) := h
      unfold heiS at h
      cases h1 : nxtS T (p + wlS 6) 1 9 with
      | none => rw [h1] at h; cases h
      | some vp =>
        obtain ⟨x, p'⟩ := vp
        have b := nxtS_le h1
        rw [h1] at h
        dsimp only at h
        cases h2 : wrtS T s.2.2 6 0 p' with
        | none => rw [h2] at h; cases h
        | some vp2 =>
          obtain ⟨bs, p3⟩ := vp2
          rw [h2] at h
          cases h
          have hcl : (c.1 11).toNatClampNeg = s.2.2 := by rw [q3]; exact i_nat (ofN_toInt (by omega))
          have k := sg_wrt (c := cfDo c (3, x, 0, 0)) (s := sgDo s (3, x, 0, 0)) h2 ⟨q1, q2, show Int32.ofNat ((c.1 11).toNatClampNeg + 1) = Int32.ofNat (s.2.2 + 1) by rw [hcl], q4, q5, q6, q7, show s.2.2 + 1 ≤ 5 by omega⟩
          exact ⟨k.1, by omega, by omega⟩
    | k + 7, v7, _, _, _ => exact absurd v7 (by omega)
def itsS (T : Nat → Int32) (n : Nat) : Nat → Sg → Nat → Option (Nat × List Act)
  | 0, _, _ => none
  | f + 1, s, p => match itmS T p s with
    | none => none
    | some (as, p1) => if n ≤ p1 then some (1, as) else if T p1 = 59 then (match itsS T n f (as.foldl sgDo s) (p1 + 1) with
      | some (k, bs) => some (k + 1, as ++ bs)
      | none => none) else none
def qIt (rp tp : Nat) (flt : Int32) (h : sHp) (c : CF) (K : Nat) (q : Option (Nat × List Act)) (r : Option Value) (h' : sHp) : Prop := match q with
  | some (k, as) => r = some (.int (Int32.ofNat (K + k))) ∧ (∃ A' : Nat, h'[rp]? = some (rd tp flt A')) ∧ FC h' 27 (as.foldl cfDo c) ∧ gE rp h h'
  | none => (∃ x : Int32, r = some (.int x)) ∧ ∃ F A' : Nat, F < 999 ∧ h'[rp]? = some (rd tp (Int32.ofNat F) A') ∧ gE rp h h'
theorem s_readItems_go {d : Nat} {h0 : sHp} {rp tp ep n : Nat} {ot flt : Int32} {el : Nat → Int64} (hn : n ≤ 100) (h1 : 79 ≤ rp) (h2 : 44 ≤ tp ∧ tp < 60) (h3 : 44 ≤ ep ∧ ep < 60) (hd : 7 ≤ d) : ∀ (f A K : Nat) (h : sHp) (c : CF) (s : Sg), n < A + f → A ≤ n → K ≤ A → sgI c s → h[rp]? = some (rd tp flt A) → h[tp]? = some (.inr (7, [.int ot, .int (Int32.ofNat n), .ref ep])) → h[ep]? = some (.inl (1, 100, .inr (.inl el))) → FC h 27 c → gE rp h0 h → sGo none 65 d 2 [some (.ref rp), some (.int (Int32.ofNat K))] [] h (qIt rp tp flt h0 c K (itsS (tx el n) n f s A)) := by
  have e100 : (Int8.ofInt 100).toInt32.toInt = 100 := rfl
  have en := ofN_toInt (n := n) (by omega)
  intro f
  induction f with
  | zero => intro A K h c s hl hA; omega
  | succ f ih =>
    intro A K h c s hl hA hK hs hr ht he F G
    have eK := ofN_toInt (n := K) (by omega)
    have hit := s_readItem (d := 0) hr ht he hn F h1 h2 h3 (by omega) hs
    unfold itsS
    refine g_iload_n (i := 1) rfl rfl ?_
    refine g_bipush (n := 100) rfl ?_
    refine g_icmp_gt 43 rfl rfl (fun hc => absurd hc (by rw [i_lt, e100, eK]; omega)) (fun _ => ?_)
    refine g_aload_n (i := 0) rfl rfl ?_
    refine g_virt0 rfl (by decide) rfl hr rfl (Nat.le_of_ble_eq_true rfl) (sDo_up (d := 7) (by omega) hit) (fun r h_1 hq => ?_)
    cases hi : itmS (tx el n) A s with
    | none =>
      rw [hi] at hq
      obtain ⟨rfl, F1, A1, hF1, hr1, G1⟩ := hq
      refine g_if_eq 43 rfl rfl (fun _ => ?_) (fun hc => absurd hc (by decide))
      refine g_iload_n (i := 1) rfl rfl ?_
      refine g_ireturn (ty := .int) rfl rfl rfl ?_
      exact ⟨⟨_, rfl⟩, F1, A1, hF1, hr1, gE_tr G G1⟩
    | some q =>
      obtain ⟨as, A1⟩ := q
      rw [hi] at hq
      obtain ⟨rfl, r1, F1, G1⟩ := hq
      have sg := sg_itm hi hs
      have eA1 := ofN_toInt (n := A1) (by omega)
      have t1 := (G1.2 tp (by omega) (by omega)).trans ht
      have p1 := (G1.2 ep (by omega) (by omega)).trans he
      dsimp only
      refine g_if_eq 43 rfl rfl (fun hc => absurd hc (by decide)) (fun _ => ?_)
      refine g_iinc (i := 1) (L1 := [some (.ref rp), some (.int ((Int32.ofNat K) + Int32.ofInt 1))]) rfl rfl rfl ?_
      rw [ofN_add (by omega)]
      refine g_aload_n (i := 0) rfl rfl ?_
      refine g_getfield (v := .int (Int32.ofNat A1)) rfl r1 (by decide) rfl ?_
      refine g_aload_n (i := 0) rfl rfl ?_
      refine g_getfield (v := .ref tp) rfl r1 (by decide) rfl ?_
      refine g_getfield (v := .int (Int32.ofNat n)) rfl t1 (by decide) rfl ?_
      refine g_icmp_ge 41 rfl rfl (fun c1 => ?_) (fun c1 => ?_)
      · skip
        rw [i_le, en, eA1] at c1
        rw [if_pos (show n ≤ A1 by omega)]
        refine g_iload_n (i := 1) rfl rfl ?_
        refine g_ireturn (ty := .int) rfl rfl rfl ?_
        exact ⟨rfl, ⟨A1, r1⟩, F1, gE_tr G G1⟩
      · skip
        rw [i_le, en, eA1] at c1
        rw [if_neg (show ¬ n ≤ A1 by omega)]
        refine g_aload_n (i := 0) rfl rfl ?_
        refine g_bipush (n := 59) rfl ?_
        by_cases hb : tx el n A1 = (Int8.ofInt 59).toInt32
        · skip
          refine g_virt1 (Qc := fun r h' => r = some (.int 1) ∧ h' = h_1.set rp (rd tp flt (A1 + 1))) rfl (by decide) rfl r1 rfl (Nat.le_of_ble_eq_true rfl) (sDo_up (d := 3) (by omega) (s_passesY (d := 0) r1 t1 p1 hn (by omega) hb)) (fun r h9 hq9 => ?_)
          obtain ⟨rfl, rfl⟩ := hq9
          rw [if_pos (show tx el n A1 = 59 from hb)]
          refine g_if_ne 2 rfl rfl (fun _ => ?_) (fun hc => absurd hc (by decide))
          have key := ih (A1 + 1) (K + 1) (h_1.set rp (rd tp flt (A1 + 1))) _ _ (by omega) (by omega) (by omega) sg.1 (s_set_eq r1) (by rw [s_set_ne (by omega)]; exact t1) (by rw [s_set_ne (by omega)]; exact p1) (FC_out F1 (by omega)) (gE_rp (gE_tr G G1))
          cases hz : itsS (tx el n) n f (List.foldl sgDo s as) (A1 + 1) with
          | none => rw [hz] at key; exact key
          | some kb =>
            obtain ⟨k, bs⟩ := kb
            rw [hz] at key
            unfold qIt at key ⊢
            dsimp only at key ⊢
            rw [List.foldl_append, show K + (k + 1) = K + 1 + k by omega]
            exact key
        · skip
          refine g_virt1 (Qc := fun r h' => r = some (.int 0) ∧ h' = h_1.set rp (rd tp (Int32.ofNat A1) A1)) rfl (by decide) rfl r1 rfl (Nat.le_of_ble_eq_true rfl) (sDo_up (d := 3) (by omega) (s_passesN (d := 0) r1 t1 p1 hn (by omega) hb)) (fun r h9 hq9 => ?_)
          obtain ⟨rfl, rfl⟩ := hq9
          rw [if_neg (show ¬ tx el n A1 = 59 from hb)]
          refine g_if_ne 2 rfl rfl (fun hc => absurd hc (by decide)) (fun _ => ?_)
          refine g_iload_n (i := 1) rfl rfl ?_
          refine g_ireturn (ty := .int) rfl rfl rfl ?_
          exact ⟨⟨_, rfl⟩, A1, A1, by omega, s_set_eq r1, gE_rp (gE_tr G G1)⟩
end
section
/-! ===== texts: the reference's numbers ===== -/
/-- the reference's object: its ints by their places among the fields -/
def mO (J : Nat → Int32) : va_E := .inr (12, [.int (J 0), .int (J 1), .int (J 2), .int (J 3), .int (J 4), .int (J 5), .int (J 6), .int (J 7), .ref 61, .ref 62, .ref 63, .ref 64, .ref 65, .ref 66, .ref 67, .ref 68, .ref 69, .ref 70, .ref 71, .ref 72, .ref 73, .int (J 21), .int (J 22), .int (J 23), .int (J 24), .int (J 25), .ref 74, .ref 75, .int (J 28), .ref 76, .ref 77, .int (J 31), .int (J 32), .int (J 33), .int (J 34), .ref 78, .int (J 36), .int (J 37)])
/-- the text of shelf S before the reference -/
def RT (cl : Nat → Int64) (S n : Nat) (T : Nat → Int32) : Prop := S < 8 ∧ n ≤ 100 ∧ (∀ i, i < n → (cl (100 * S + i)).toInt32 = T i) ∧ ∀ i, n ≤ i → T i = 0
def rtJ (J : Nat → Int32) (S n A : Nat) : Prop := J 21 = Int32.ofNat (100 * S) ∧ J 22 = Int32.ofNat A ∧ J 23 = Int32.ofNat n
def jS (J J' : Nat → Int32) : Prop := ∀ j, j ≠ 22 → j ≠ 24 → j ≠ 25 → J' j = J j
theorem jS_rfl (J : Nat → Int32) : jS J J := fun _ _ _ _ => rfl
theorem jS_tr {J J1 J2 : Nat → Int32} (a : jS J J1) (b : jS J1 J2) : jS J J2 := fun j x y z => (b j x y z).trans (a j x y z)
theorem jS_up {J J1 : Nat → Int32} {k : Nat} {v : Int32} (a : jS J J1) (hk : k = 22 ∨ k = 24 ∨ k = 25) : jS J (upd J1 k v) := fun j x y z => (u_ne (by omega)).trans (a j x y z)
theorem dgS_0 : dgS 0 = none := by decide
theorem s_wrongE {d : Nat} {h : sHp} {J : Nat → Int32} {p : Int32} (hr : h[60]? = some (mO J)) : sDo (d + 1) 192 [.ref 60, .int p] h (fun r h' => r = some (.int 0) ∧ h' = h.set 60 (mO (upd J 25 p))) := by
  refine sDo_of (d := d) (nL := 2) (L := [some (.ref 60), some (.int p)]) rfl rfl ?_
  refine g_aload_n (i := 0) rfl rfl ?_
  refine g_iload_n (i := 1) rfl rfl ?_
  refine g_putfield (h1 := h.set 60 (mO (upd J 25 p))) rfl hr (by decide) (Nat.le_of_ble_eq_true rfl) rfl rfl ?_
  refine g_iconst (n := 0) rfl ?_
  refine g_ireturn (ty := .boolean) rfl rfl (by decide) ?_
  exact ⟨rfl, rfl⟩
def dgB (x : Int32) : Int32 := match dgS x with
  | some _ => 1
  | none => 0
theorem s_isDigit {d : Nat} {h : sHp} {J : Nat → Int32} {cl : Nat → Int64} {S n A : Nat} {T : Nat → Int32} (hr : h[60]? = some (mO J)) (a8 : h[71]? = some (.inl (1, 800, .inr (.inl cl)))) (R : RT cl S n T) (hJ : rtJ J S n A) (hA : A < 900) : sDo (d + 1) 194 [.ref 60] h (fun r h' => h' = h ∧ r = some (.int (dgB (T A)))) := by
  have eA := ofN_toInt (n := A) (by omega)
  obtain ⟨j21, j22, j23⟩ := hJ
  obtain ⟨R1, R2, R3, R4⟩ := R
  have en := ofN_toInt (n := n) (by omega)
  have e48 : (Int8.ofInt 48).toInt32.toInt = 48 := rfl
  have e57 : (Int8.ofInt 57).toInt32.toInt = 57 := rfl
  refine sDo_of (d := d) (nL := 1) (L := [some (.ref 60)]) rfl rfl ?_
  refine g_aload_n (i := 0) rfl rfl ?_
  refine g_getfield (v := .int (J 22)) rfl hr (by decide) rfl ?_
  refine g_aload_n (i := 0) rfl rfl ?_
  refine g_getfield (v := .int (J 23)) rfl hr (by decide) rfl ?_
  refine g_icmp_ge 55 rfl rfl (fun c1 => ?_) (fun c1 => ?_)
  · skip
    rw [j22, j23, i_le, en, eA] at c1
    refine g_iconst (n := 0) rfl ?_
    refine g_ireturn (ty := .boolean) rfl rfl (by decide) ?_
    exact ⟨rfl, by rw [R4 A (by omega)]; rfl⟩
  · skip
    rw [j22, j23, i_le, en, eA] at c1
    have eb : (Int32.ofNat (100 * S)).toInt = ((100 * S : Nat) : Int) := Int32.toInt_ofNat_of_lt (by omega)
    have eba : (Int32.ofNat (100 * S) + Int32.ofNat A).toInt = ((100 * S + A : Nat) : Int) := by rw [i_add (by rw [eb, eA]; omega) (by rw [eb, eA]; omega), eb, eA]; omega
    refine g_aload_n (i := 0) rfl rfl ?_
    refine g_getfield (v := .ref 71) rfl hr (by decide) rfl ?_
    refine g_aload_n (i := 0) rfl rfl ?_
    refine g_getfield (v := .int (J 21)) rfl hr (by decide) rfl ?_
    refine g_aload_n (i := 0) rfl rfl ?_
    refine g_getfield (v := .int (J 22)) rfl hr (by decide) rfl ?_
    refine g_iadd rfl ?_
    rw [j21, j22]
    refine g_laload (n := 800) (f := cl) rfl a8 (i_in (by omega) (by omega)) ?_
    rw [i_nat eba]
    refine g_l2i rfl ?_
    rw [R3 A (by omega)]
    refine g_bipush (n := 48) rfl ?_
    refine g_icmp_lt 55 rfl rfl (fun c2 => ?_) (fun c2 => ?_)
    · skip
      rw [i_lt, e48] at c2
      refine g_iconst (n := 0) rfl ?_
      refine g_ireturn (ty := .boolean) rfl rfl (by decide) ?_
      exact ⟨rfl, by unfold dgB dgS; rw [if_neg (by omega)]; rfl⟩
    · skip
      rw [i_lt, e48] at c2
      refine g_aload_n (i := 0) rfl rfl ?_
      refine g_getfield (v := .ref 71) rfl hr (by decide) rfl ?_
      refine g_aload_n (i := 0) rfl rfl ?_
      refine g_getfield (v := .int (J 21)) rfl hr (by decide) rfl ?_
      refine g_aload_n (i := 0) rfl rfl ?_
      refine g_getfield (v := .int (J 22)) rfl hr (by decide) rfl ?_
      refine g_iadd rfl ?_
      rw [j21, j22]
      refine g_laload (n := 800) (f := cl) rfl a8 (i_in (by omega) (by omega)) ?_
      rw [i_nat eba]
      refine g_l2i rfl ?_
      rw [R3 A (by omega)]
      refine g_bipush (n := 57) rfl ?_
      refine g_icmp_gt 55 rfl rfl (fun c3 => ?_) (fun c3 => ?_)
      · skip
        rw [i_lt, e57] at c3
        refine g_iconst (n := 0) rfl ?_
        refine g_ireturn (ty := .boolean) rfl rfl (by decide) ?_
        exact ⟨rfl, by unfold dgB dgS; rw [if_neg (by omega)]; rfl⟩
      · skip
        rw [i_lt, e57] at c3
        refine g_iconst (n := 1) rfl ?_
        refine g_goto 56 rfl rfl ?_
        refine g_ireturn (ty := .boolean) rfl rfl (by decide) ?_
        exact ⟨rfl, by unfold dgB dgS; rw [if_pos (by omega)]; rfl⟩
def qMu (h : sHp) (J : Nat → Int32) (q : Option (Nat × Nat)) (r : Option Value) (h' : sHp) : Prop := ∃ J', h' = h.set 60 (mO J') ∧ jS J J' ∧ (match q with
  | some (v, A') => r = some (.int 1) ∧ J' 24 = Int32.ofNat v ∧ J' 22 = Int32.ofNat A'
  | none => r = some (.int 0))
theorem s_nuTail {d : Nat} {h0 h : sHp} {J0 J : Nat → Int32} {A v : Nat} {p lo hi : Int32} {q : Option (Nat × Nat)} (hr : h[60]? = some (mO J)) (hh : h = h0.set 60 (mO J)) (h0r : ∀ c, h.set 60 c = h0.set 60 c) (js : jS J0 J) (j24 : J 24 = Int32.ofNat v) (j22 : J 22 = Int32.ofNat A) (hv : v < 900) (hq : q = if lo.toInt ≤ v ∧ (v : Int) ≤ hi.toInt then some (v, A) else none) : sGo none 195 (d + 1) 100 [some (.ref 60), some (.int lo), some (.int hi), some (.int p)] [] h (qMu h0 J0 q) := by
  have ev := ofN_toInt (n := v) (by omega)
  refine g_aload_n (i := 0) rfl rfl ?_
  refine g_getfield (v := .int (J 24)) rfl hr (by decide) rfl ?_
  refine g_iload_n (i := 1) rfl rfl ?_
  refine g_icmp_lt 116 rfl rfl (fun c1 => ?_) (fun c1 => ?_)
  · skip
    rw [j24, i_lt, ev] at c1
    refine g_aload_n (i := 0) rfl rfl ?_
    refine g_iload_n (i := 3) rfl rfl ?_
    refine g_virt1 (Qc := fun r h' => r = some (.int 0) ∧ h' = List.set h 60 (mO (upd J 25 p))) rfl (by decide) rfl hr rfl (Nat.le_of_ble_eq_true rfl) (sDo_up (d := 1) (by omega) (s_wrongE (d := 0) hr)) (fun r h8 hq9 => ?_)
    obtain ⟨rfl, rfl⟩ := hq9
    refine g_if_eq 128 rfl rfl (fun _ => ?_) (fun hc => absurd hc (by decide))
    refine g_iconst (n := 0) rfl ?_
    refine g_ireturn (ty := .boolean) rfl rfl (by decide) ?_
    rw [hq, if_neg (by omega)]
    exact ⟨_, h0r _, jS_up js (by omega), rfl⟩
  · skip
    rw [j24, i_lt, ev] at c1
    refine g_aload_n (i := 0) rfl rfl ?_
    refine g_getfield (v := .int (J 24)) rfl hr (by decide) rfl ?_
    refine g_iload_n (i := 2) rfl rfl ?_
    refine g_icmp_le 124 rfl rfl (fun c2 => ?_) (fun c2 => ?_)
    · skip
      rw [j24, i_le, ev] at c2
      refine g_iconst (n := 1) rfl ?_
      refine g_goto 129 rfl rfl ?_
      refine g_ireturn (ty := .boolean) rfl rfl (by decide) ?_
      rw [hq, if_pos (by omega)]
      exact ⟨J, hh, js, rfl, j24, j22⟩
    · skip
      rw [j24, i_le, ev] at c2
      refine g_aload_n (i := 0) rfl rfl ?_
      refine g_iload_n (i := 3) rfl rfl ?_
      refine g_virt1 (Qc := fun r h' => r = some (.int 0) ∧ h' = List.set h 60 (mO (upd J 25 p))) rfl (by decide) rfl hr rfl (Nat.le_of_ble_eq_true rfl) (sDo_up (d := 1) (by omega) (s_wrongE (d := 0) hr)) (fun r h8 hq9 => ?_)
      obtain ⟨rfl, rfl⟩ := hq9
      refine g_if_eq 128 rfl rfl (fun _ => ?_) (fun hc => absurd hc (by decide))
      refine g_iconst (n := 0) rfl ?_
      refine g_ireturn (ty := .boolean) rfl rfl (by decide) ?_
      rw [hq, if_neg (by omega)]
      exact ⟨_, h0r _, jS_up js (by omega), rfl⟩
theorem s_number {d : Nat} {h : sHp} {J : Nat → Int32} {cl : Nat → Int64} {S n A : Nat} {T : Nat → Int32} {lo hi : Int32} (hr : h[60]? = some (mO J)) (a8 : h[71]? = some (.inl (1, 800, .inr (.inl cl)))) (R : RT cl S n T) (hJ : rtJ J S n A) (hA : A < 900) : sDo (d + 2) 195 [.ref 60, .int lo, .int hi] h (qMu h J (numS T A lo.toInt hi.toInt)) := by
  have eA := ofN_toInt (n := A) (by omega)
  have eA1 := ofN_toInt (n := A + 1) (by omega)
  have hJc := hJ
  have Rc := R
  obtain ⟨j21, j22, j23⟩ := hJ
  obtain ⟨R1, R2, R3, R4⟩ := R
  have e48 : (Int8.ofInt 48).toInt32.toInt = 48 := rfl
  have e10 : (Int8.ofInt 10).toInt32.toInt = 10 := rfl
  have setr : ∀ (c c' : va_E), (h.set 60 c).set 60 c' = h.set 60 c' := fun c c' => List.set_set ..
  have a8S : ∀ c, (h.set 60 c)[71]? = some (.inl (1, 800, .inr (.inl cl))) := fun c => by rw [s_set_ne (by decide)]; exact a8
  have hrS : ∀ c, (h.set 60 c)[60]? = some c := fun c => s_set_eq hr
  unfold numS
  refine sDo_of (d := d + 1) (nL := 4) (L := [some (.ref 60), some (.int lo), some (.int hi), none]) rfl rfl ?_
  refine g_aload_n (i := 0) rfl rfl ?_
  refine g_getfield (v := .int (J 22)) rfl hr (by decide) rfl ?_
  refine g_istore_n (i := 3) (L1 := [some (.ref 60), some (.int lo), some (.int hi), some (.int (J 22))]) rfl (Nat.le_of_ble_eq_true rfl) rfl ?_
  refine g_aload_n (i := 0) rfl rfl ?_
  refine g_virt0 (Qc := fun r h' => h' = h ∧ r = some (.int (dgB (T A)))) rfl (by decide) rfl hr rfl (Nat.le_of_ble_eq_true rfl) (sDo_up (d := 1) (by omega) (s_isDigit (d := 0) hr a8 Rc hJc hA)) (fun r h9 hq => ?_)
  obtain ⟨rfl, rfl⟩ := hq
  cases hd : dgS (T A) with
  | none =>
    rw [show dgB (T A) = 0 by unfold dgB; rw [hd]]
    refine g_if_ne 21 rfl rfl (fun hc => absurd hc (by decide)) (fun _ => ?_)
    refine g_aload_n (i := 0) rfl rfl ?_
    refine g_aload_n (i := 0) rfl rfl ?_
    refine g_getfield (v := .int (J 22)) rfl hr (by decide) rfl ?_
    refine g_virt1 (Qc := fun r h' => r = some (.int 0) ∧ h' = List.set h9 60 (mO (upd J 25 (J 22)))) rfl (by decide) rfl hr rfl (Nat.le_of_ble_eq_true rfl) (sDo_up (d := 1) (by omega) (s_wrongE (d := 0) hr)) (fun r h8 hq9 => ?_)
    obtain ⟨rfl, rfl⟩ := hq9
    refine g_ireturn (ty := .boolean) rfl rfl (by decide) ?_
    exact ⟨_, rfl, jS_up (jS_rfl J) (by omega), rfl⟩
  | some dv =>
    obtain ⟨d9, dx1, dx2, dx3⟩ := dgS_lt hd
    rw [show dgB (T A) = 1 by unfold dgB; rw [hd]]
    have hAn : A < n := by
      by_cases c : A < n
      · exact c
      · rw [R4 A (by omega)] at dx1
        exact absurd dx1 (by decide)
    refine g_if_ne 21 rfl rfl (fun _ => ?_) (fun hc => absurd hc (by decide))
    have eb : (Int32.ofNat (100 * S)).toInt = ((100 * S : Nat) : Int) := Int32.toInt_ofNat_of_lt (by omega)
    have eba : (Int32.ofNat (100 * S) + Int32.ofNat A).toInt = ((100 * S + A : Nat) : Int) := by rw [i_add (by rw [eb, eA]; omega) (by rw [eb, eA]; omega), eb, eA]; omega
    refine g_aload_n (i := 0) rfl rfl ?_
    refine g_aload_n (i := 0) rfl rfl ?_
    refine g_getfield (v := .ref 71) rfl hr (by decide) rfl ?_
    refine g_aload_n (i := 0) rfl rfl ?_
    refine g_getfield (v := .int (J 21)) rfl hr (by decide) rfl ?_
    refine g_aload_n (i := 0) rfl rfl ?_
    refine g_getfield (v := .int (J 22)) rfl hr (by decide) rfl ?_
    refine g_iadd rfl ?_
    rw [j21, j22]
    refine g_laload (n := 800) (f := cl) rfl a8 (i_in (by omega) (by omega)) ?_
    rw [i_nat eba]
    refine g_l2i rfl ?_
    rw [R3 A (by omega)]
    refine g_bipush (n := 48) rfl ?_
    refine g_isub rfl ?_
    have es : T A - (Int8.ofInt 48).toInt32 = Int32.ofNat dv := Int32.toInt_inj.mp (by rw [i_sub (by rw [e48]; omega) (by rw [e48]; omega), e48, ofN_toInt (by omega)]; omega)
    rw [es]
    refine g_putfield (h1 := h9.set 60 (mO (upd J 24 (Int32.ofNat dv)))) rfl hr (by decide) (Nat.le_of_ble_eq_true rfl) rfl rfl ?_
    refine g_aload_n (i := 0) rfl rfl ?_
    refine g_dup rfl rfl ?_
    refine g_getfield (v := .int ((upd J 24 (Int32.ofNat dv)) 22)) rfl (hrS _) (by decide) rfl ?_
    refine g_iconst (n := 1) rfl ?_
    refine g_iadd rfl ?_
    rw [show (upd J 24 (Int32.ofNat dv)) 22 = Int32.ofNat A from j22, ofN_add (by omega)]
    refine g_putfield (h1 := h9.set 60 (mO (upd (upd J 24 (Int32.ofNat dv)) 22 (Int32.ofNat (A + 1))))) rfl (hrS _) (by decide) (Nat.le_of_ble_eq_true rfl) rfl (setr _ _) ?_
    have js2 : jS J (upd (upd J 24 (Int32.ofNat dv)) 22 (Int32.ofNat (A + 1))) := jS_up (jS_up (jS_rfl J) (by omega)) (by omega)
    have rt2 : rtJ (upd (upd J 24 (Int32.ofNat dv)) 22 (Int32.ofNat (A + 1))) S n (A + 1) := ⟨j21, rfl, j23⟩
    refine g_aload_n (i := 0) rfl rfl ?_
    refine g_virt0 (Qc := fun r h' => h' = h9.set 60 (mO (upd (upd J 24 (Int32.ofNat dv)) 22 (Int32.ofNat (A + 1)))) ∧ r = some (.int (dgB (T (A + 1))))) rfl (by decide) rfl (hrS _) rfl (Nat.le_of_ble_eq_true rfl) (sDo_up (d := 1) (by omega) (s_isDigit (d := 0) (hrS _) (a8S _) Rc rt2 (by omega))) (fun r h8 hq => ?_)
    obtain ⟨rfl, rfl⟩ := hq
    cases hd2 : dgS (T (A + 1)) with
    | none =>
      rw [show dgB (T (A + 1)) = 0 by unfold dgB; rw [hd2]]
      refine g_if_eq 100 rfl rfl (fun _ => ?_) (fun hc => absurd hc (by decide))
      exact s_nuTail (v := dv) (A := A + 1) (hrS _) rfl (fun c => setr _ _) js2 rfl rfl (by omega) rfl
    | some ev =>
      obtain ⟨d8, ex1, ex2, ex3⟩ := dgS_lt hd2
      rw [show dgB (T (A + 1)) = 1 by unfold dgB; rw [hd2]]
      have hAn1 : A + 1 < n := by
        by_cases c : A + 1 < n
        · exact c
        · rw [R4 (A + 1) (by omega)] at ex1
          exact absurd ex1 (by decide)
      have edv := ofN_toInt (n := dv) (by omega)
      have eba1 : (Int32.ofNat (100 * S) + Int32.ofNat (A + 1)).toInt = ((100 * S + (A + 1) : Nat) : Int) := by rw [i_add (by rw [eb, eA1]; omega) (by rw [eb, eA1]; omega), eb, eA1]; omega
      refine g_if_eq 100 rfl rfl (fun hc => absurd hc (by decide)) (fun _ => ?_)
      refine g_aload_n (i := 0) rfl rfl ?_
      refine g_bipush (n := 10) rfl ?_
      refine g_aload_n (i := 0) rfl rfl ?_
      refine g_getfield (v := .int ((upd (upd J 24 (Int32.ofNat dv)) 22 (Int32.ofNat (A + 1))) 24)) rfl (hrS _) (by decide) rfl ?_
      refine g_imul rfl ?_
      refine g_aload_n (i := 0) rfl rfl ?_
      refine g_getfield (v := .ref 71) rfl (hrS _) (by decide) rfl ?_
      refine g_aload_n (i := 0) rfl rfl ?_
      refine g_getfield (v := .int ((upd (upd J 24 (Int32.ofNat dv)) 22 (Int32.ofNat (A + 1))) 21)) rfl (hrS _) (by decide) rfl ?_
      refine g_aload_n (i := 0) rfl rfl ?_
      refine g_getfield (v := .int ((upd (upd J 24 (Int32.ofNat dv)) 22 (Int32.ofNat (A + 1))) 22)) rfl (hrS _) (by decide) rfl ?_
      refine g_iadd rfl ?_
      rw [show (upd (upd J 24 (Int32.ofNat dv)) 22 (Int32.ofNat (A + 1))) 21 = Int32.ofNat (100 * S) from j21, show (upd (upd J 24 (Int32.ofNat dv)) 22 (Int32.ofNat (A + 1))) 22 = Int32.ofNat (A + 1) from rfl]
      refine g_laload (n := 800) (f := cl) rfl (a8S _) (i_in (by omega) (by omega)) ?_
      rw [i_nat eba1]
      refine g_l2i rfl ?_
      rw [R3 (A + 1) (by omega), show (upd (upd J 24 (Int32.ofNat dv)) 22 (Int32.ofNat (A + 1))) 24 = Int32.ofNat dv from rfl]
      refine g_iadd rfl ?_
      refine g_bipush (n := 48) rfl ?_
      refine g_isub rfl ?_
      have m1 : ((Int8.ofInt 10).toInt32 * Int32.ofNat dv).toInt = 10 * dv := by rw [i_mul (by rw [e10, edv]; omega) (by rw [e10, edv]; omega), e10, edv]
      have m2 : ((Int8.ofInt 10).toInt32 * Int32.ofNat dv + T (A + 1)).toInt = 10 * dv + (T (A + 1)).toInt := by rw [i_add (by rw [m1]; omega) (by rw [m1]; omega), m1]
      have ee : (Int8.ofInt 10).toInt32 * Int32.ofNat dv + T (A + 1) - (Int8.ofInt 48).toInt32 = Int32.ofNat (10 * dv + ev) := Int32.toInt_inj.mp (by rw [i_sub (by rw [m2, e48]; omega) (by rw [m2, e48]; omega), m2, e48, ofN_toInt (by omega)]; omega)
      rw [ee]
      refine g_putfield (h1 := h9.set 60 (mO (upd (upd (upd J 24 (Int32.ofNat dv)) 22 (Int32.ofNat (A + 1))) 24 (Int32.ofNat (10 * dv + ev))))) rfl (hrS _) (by decide) (Nat.le_of_ble_eq_true rfl) rfl (setr _ _) ?_
      refine g_aload_n (i := 0) rfl rfl ?_
      refine g_dup rfl rfl ?_
      refine g_getfield (v := .int ((upd (upd (upd J 24 (Int32.ofNat dv)) 22 (Int32.ofNat (A + 1))) 24 (Int32.ofNat (10 * dv + ev))) 22)) rfl (hrS _) (by decide) rfl ?_
      refine g_iconst (n := 1) rfl ?_
      refine g_iadd rfl ?_
      rw [show (upd (upd (upd J 24 (Int32.ofNat dv)) 22 (Int32.ofNat (A + 1))) 24 (Int32.ofNat (10 * dv + ev))) 22 = Int32.ofNat (A + 1) from rfl, ofN_add (by omega)]
      refine g_putfield (h1 := h9.set 60 (mO (upd (upd (upd (upd J 24 (Int32.ofNat dv)) 22 (Int32.ofNat (A + 1))) 24 (Int32.ofNat (10 * dv + ev))) 22 (Int32.ofNat (A + 2))))) rfl (hrS _) (by decide) (Nat.le_of_ble_eq_true rfl) rfl (setr _ _) ?_
      exact s_nuTail (v := 10 * dv + ev) (A := A + 2) (hrS _) rfl (fun c => setr _ _) (jS_up (jS_up js2 (by omega)) (by omega)) rfl rfl (by omega) rfl
theorem s_next {d : Nat} {h : sHp} {J : Nat → Int32} {cl : Nat → Int64} {S n A : Nat} {T : Nat → Int32} {lo hi : Int32} (hr : h[60]? = some (mO J)) (a8 : h[71]? = some (.inl (1, 800, .inr (.inl cl)))) (R : RT cl S n T) (hJ : rtJ J S n A) (hA : A < 899) : sDo (d + 3) 196 [.ref 60, .int lo, .int hi] h (qMu h J (nxtS T A lo.toInt hi.toInt)) := by
  have eA := ofN_toInt (n := A) (by omega)
  have hJc := hJ
  have Rc := R
  obtain ⟨j21, j22, j23⟩ := hJ
  obtain ⟨R1, R2, R3, R4⟩ := R
  have en := ofN_toInt (n := n) (by omega)
  unfold nxtS
  refine sDo_of (d := d + 2) (nL := 3) (L := [some (.ref 60), some (.int lo), some (.int hi)]) rfl rfl ?_
  refine g_aload_n (i := 0) rfl rfl ?_
  refine g_getfield (v := .int (J 22)) rfl hr (by decide) rfl ?_
  refine g_aload_n (i := 0) rfl rfl ?_
  refine g_getfield (v := .int (J 23)) rfl hr (by decide) rfl ?_
  refine g_icmp_ge 31 rfl rfl (fun c1 => ?_) (fun c1 => ?_)
  · skip
    rw [j22, j23, i_le, en, eA] at c1
    rw [if_neg (show ¬ T A = 32 by rw [R4 A (by omega)]; decide)]
    refine g_aload_n (i := 0) rfl rfl ?_
    refine g_aload_n (i := 0) rfl rfl ?_
    refine g_getfield (v := .int (J 22)) rfl hr (by decide) rfl ?_
    refine g_virt1 (Qc := fun r h' => r = some (.int 0) ∧ h' = List.set h 60 (mO (upd J 25 (J 22)))) rfl (by decide) rfl hr rfl (Nat.le_of_ble_eq_true rfl) (sDo_up (d := 1) (by omega) (s_wrongE (d := 0) hr)) (fun r h8 hq9 => ?_)
    obtain ⟨rfl, rfl⟩ := hq9
    refine g_ireturn (ty := .boolean) rfl rfl (by decide) ?_
    exact ⟨_, rfl, jS_up (jS_rfl J) (by omega), rfl⟩
  · skip
    rw [j22, j23, i_le, en, eA] at c1
    have eb : (Int32.ofNat (100 * S)).toInt = ((100 * S : Nat) : Int) := Int32.toInt_ofNat_of_lt (by omega)
    have eba : (Int32.ofNat (100 * S) + Int32.ofNat A).toInt = ((100 * S + A : Nat) : Int) := by rw [i_add (by rw [eb, eA]; omega) (by rw [eb, eA]; omega), eb, eA]; omega
    refine g_aload_n (i := 0) rfl rfl ?_
    refine g_getfield (v := .ref 71) rfl hr (by decide) rfl ?_
    refine g_aload_n (i := 0) rfl rfl ?_
    refine g_getfield (v := .int (J 21)) rfl hr (by decide) rfl ?_
    refine g_aload_n (i := 0) rfl rfl ?_
    refine g_getfield (v := .int (J 22)) rfl hr (by decide) rfl ?_
    refine g_iadd rfl ?_
    rw [j21, j22]
    refine g_laload (n := 800) (f := cl) rfl a8 (i_in (by omega) (by omega)) ?_
    rw [i_nat eba]
    refine g_l2i rfl ?_
    rw [R3 A (by omega)]
    refine g_bipush (n := 32) rfl ?_
    refine g_icmp_eq 40 rfl rfl (fun c2 => ?_) (fun c2 => ?_)
    · skip
      rw [if_pos (show T A = 32 from c2)]
      refine g_aload_n (i := 0) rfl rfl ?_
      refine g_dup rfl rfl ?_
      refine g_getfield (v := .int (J 22)) rfl hr (by decide) rfl ?_
      refine g_iconst (n := 1) rfl ?_
      refine g_iadd rfl ?_
      rw [j22, ofN_add (by omega)]
      refine g_putfield (h1 := h.set 60 (mO (upd J 22 (Int32.ofNat (A + 1))))) rfl hr (by decide) (Nat.le_of_ble_eq_true rfl) rfl rfl ?_
      refine g_aload_n (i := 0) rfl rfl ?_
      refine g_iload_n (i := 1) rfl rfl ?_
      refine g_iload_n (i := 2) rfl rfl ?_
      have hnu := s_number (d := 0) (lo := lo) (hi := hi) (A := A + 1) (s_set_eq hr : (h.set 60 (mO (upd J 22 (Int32.ofNat (A + 1)))))[60]? = _) (by rw [s_set_ne (by decide)]; exact a8) Rc ⟨j21, rfl, j23⟩ (by omega)
      refine g_virt2 rfl (by decide) rfl (s_set_eq hr) rfl (Nat.le_of_ble_eq_true rfl) (sDo_up (d := 2) (by omega) hnu) (fun r h9 hq => ?_)
      obtain ⟨J', rfl, js, hq⟩ := hq
      have fin : ∀ b : Int32, r = some (.int b) → qMu h J (numS T (A + 1) lo.toInt hi.toInt) r ((h.set 60 (mO (upd J 22 (Int32.ofNat (A + 1))))).set 60 (mO J')) := fun b _ => ⟨J', List.set_set .., jS_tr (jS_up (jS_rfl J) (by omega)) js, hq⟩
      have hb : r = some (.int 0) ∨ r = some (.int 1) := by
        split at hq
        · exact Or.inr hq.1
        · exact Or.inl hq
      rcases hb with rfl | rfl
      · refine g_ireturn (ty := .boolean) rfl rfl (by decide) ?_
        exact fin _ rfl
      · refine g_ireturn (ty := .boolean) rfl rfl (by decide) ?_
        exact fin _ rfl
    · skip
      rw [if_neg (show ¬ T A = 32 from c2)]
      refine g_aload_n (i := 0) rfl rfl ?_
      refine g_aload_n (i := 0) rfl rfl ?_
      refine g_getfield (v := .int (J 22)) rfl hr (by decide) rfl ?_
      refine g_virt1 (Qc := fun r h' => r = some (.int 0) ∧ h' = List.set h 60 (mO (upd J 25 (J 22)))) rfl (by decide) rfl hr rfl (Nat.le_of_ble_eq_true rfl) (sDo_up (d := 1) (by omega) (s_wrongE (d := 0) hr)) (fun r h8 hq9 => ?_)
      obtain ⟨rfl, rfl⟩ := hq9
      refine g_ireturn (ty := .boolean) rfl rfl (by decide) ?_
      exact ⟨_, rfl, jS_up (jS_rfl J) (by omega), rfl⟩
end
section
/-! ===== texts: the reference's words ===== -/
def wdL : List Int := [115, 105, 122, 101, 32, 0, 115, 111, 105, 108, 32, 0, 114, 111, 97, 100, 32, 0, 119, 101, 108, 108, 32, 0, 111, 97, 107, 32, 0, 115, 109, 97, 108, 108, 32, 0, 104, 101, 105, 114, 32, 0]
def WD (wd : Nat → Int32) : Prop := ∀ i, i < 42 → (wd i).toInt = wdL.getD i 0
def stS (v : Nat) : Nat := [0, 6, 12, 18, 24, 29, 36].getD v 0
theorem st_nz : ∀ v, v < 7 → ∀ i, i < wlS v + 1 → stS v + i < 42 ∧ ¬ wdL.getD (stS v + i) 0 = 0 := by decide
theorem st_z : ∀ v, v < 7 → stS v + wlS v + 1 < 42 ∧ wdL.getD (stS v + wlS v + 1) 0 = 0 := by decide
theorem st_next : ∀ v, v < 6 → stS (v + 1) = stS v + wlS v + 2 := by decide
theorem st_let : ∀ v, v < 7 → ∀ i, i < wlS v → (sTxC v i).toInt = wdL.getD (stS v + i) 0 := by decide
theorem st_bl : ∀ v, v < 7 → wdL.getD (stS v + wlS v) 0 = 32 := by decide
/-- letters and blank of a word that stand from a place on -/
def amS (T wd : Nat → Int32) (p c : Nat) : Nat → Nat → Nat
  | 0, i => i
  | f + 1, i => if T (p + i) = wd (c + i) then amS T wd p c f (i + 1) else i
theorem amS_le (T wd : Nat → Int32) (p c : Nat) : ∀ f i, i ≤ amS T wd p c f i ∧ amS T wd p c f i ≤ i + f := by
  intro f
  induction f with
  | zero => intro i; exact ⟨Nat.le_refl _, Nat.le_refl _⟩
  | succ f ih =>
    intro i
    unfold amS
    by_cases c : T (p + i) = wd (c + i)
    · rw [if_pos c]
      have := ih (i + 1)
      omega
    · rw [if_neg c]
      omega
def fwS (T wd : Nat → Int32) (p : Nat) : Nat → Nat → Option Nat
  | 0, _ => none
  | f + 1, v => if amS T wd p (stS v) (wlS v + 1) 0 = wlS v + 1 then some v else fwS T wd p f (v + 1)
theorem s_word_in {d : Nat} {h : sHp} {J : Nat → Int32} {cl : Nat → Int64} {S n A : Nat} {T : Nat → Int32} {wd : Nat → Int32} {v : Nat} {p far : Int32} {Q : Option Value → sHp → Prop} (hr : h[60]? = some (mO J)) (a8 : h[71]? = some (.inl (1, 800, .inr (.inl cl)))) (R : RT cl S n T) (hJ : rtJ J S n A) (hA : A < 900) (hw : h[73]? = some (.inl (0, 42, .inl wd))) (W : WD wd) (hv : v < 7) (hQ : ∀ m : Nat, m = amS T wd A (stS v) (wlS v + 1) 0 → sGo none 193 d 75 [some (.ref 60), some (.int p), some (.int far), some (.int (Int32.ofNat v)), some (.int (Int32.ofNat (A + m))), some (.int (Int32.ofNat (stS v + m)))] [] h Q) : ∀ (f i : Nat), f + i = wlS v + 1 → amS T wd A (stS v) f i = amS T wd A (stS v) (wlS v + 1) 0 → sGo none 193 d 24 [some (.ref 60), some (.int p), some (.int far), some (.int (Int32.ofNat v)), some (.int (Int32.ofNat (A + i))), some (.int (Int32.ofNat (stS v + i)))] [] h Q := by
  obtain ⟨j21, j22, j23⟩ := hJ
  obtain ⟨R1, R2, R3, R4⟩ := R
  have en := ofN_toInt (n := n) (by omega)
  have wl := wlS_le v
  have e0 : (0 : Int32).toInt = 0 := rfl
  intro f
  induction f with
  | zero =>
    intro i hi hm
    have hz := st_z v hv
    have ei := ofN_toInt (n := stS v + i) (by omega)
    have hwi : wd (stS v + i) = 0 := Int32.toInt_inj.mp (by rw [W _ (by omega), show stS v + i = stS v + wlS v + 1 by omega, hz.2, e0])
    refine g_aload_n (i := 0) rfl rfl ?_
    refine g_getfield (v := .ref 73) rfl hr (by decide) rfl ?_
    refine g_iload (i := 5) rfl rfl ?_
    refine g_ialv (n := 42) (f := wd) (v := wd (stS v + i)) rfl hw (i_in (by omega) (by omega)) (congrArg wd (i_nat ei)) ?_
    refine g_if_eq 75 rfl rfl (fun _ => ?_) (fun hc => absurd hc (by rw [hwi]; decide))
    exact hQ i hm
  | succ f ih =>
    intro i hi hm
    have hz := st_nz v hv i (by omega)
    have ei := ofN_toInt (n := stS v + i) (by omega)
    have eA := ofN_toInt (n := A + i) (by omega)
    have ewd := W (stS v + i) hz.1
    have hwi : ¬ wd (stS v + i) = 0 := fun z => hz.2 (by rw [← ewd, z]; rfl)
    unfold amS at hm
    refine g_aload_n (i := 0) rfl rfl ?_
    refine g_getfield (v := .ref 73) rfl hr (by decide) rfl ?_
    refine g_iload (i := 5) rfl rfl ?_
    refine g_ialv (n := 42) (f := wd) (v := wd (stS v + i)) rfl hw (i_in (by omega) (by omega)) (congrArg wd (i_nat ei)) ?_
    refine g_if_eq 75 rfl rfl (fun hc => absurd hc (by exact hwi)) (fun _ => ?_)
    refine g_iload (i := 4) rfl rfl ?_
    refine g_aload_n (i := 0) rfl rfl ?_
    refine g_getfield (v := .int (J 23)) rfl hr (by decide) rfl ?_
    refine g_icmp_ge 75 rfl rfl (fun c1 => ?_) (fun c1 => ?_)
    · skip
      rw [j23, i_le, en, eA] at c1
      rw [if_neg (show ¬ T (A + i) = wd (stS v + i) by rw [R4 _ (by omega)]; exact fun z => hwi z.symm)] at hm
      exact hQ i hm
    · skip
      rw [j23, i_le, en, eA] at c1
      have eb : (Int32.ofNat (100 * S)).toInt = ((100 * S : Nat) : Int) := Int32.toInt_ofNat_of_lt (by omega)
      have eba : (Int32.ofNat (100 * S) + Int32.ofNat (A + i)).toInt = ((100 * S + (A + i) : Nat) : Int) := by rw [i_add (by rw [eb, eA]; omega) (by rw [eb, eA]; omega), eb, eA]; omega
      refine g_aload_n (i := 0) rfl rfl ?_
      refine g_getfield (v := .ref 71) rfl hr (by decide) rfl ?_
      refine g_aload_n (i := 0) rfl rfl ?_
      refine g_getfield (v := .int (J 21)) rfl hr (by decide) rfl ?_
      refine g_iload (i := 4) rfl rfl ?_
      refine g_iadd rfl ?_
      rw [j21]
      refine g_laload (n := 800) (f := cl) rfl a8 (i_in (by omega) (by omega)) ?_
      rw [i_nat eba]
      refine g_l2i rfl ?_
      rw [R3 (A + i) (by omega)]
      refine g_aload_n (i := 0) rfl rfl ?_
      refine g_getfield (v := .ref 73) rfl hr (by decide) rfl ?_
      refine g_iload (i := 5) rfl rfl ?_
      refine g_ialv (n := 42) (f := wd) (v := wd (stS v + i)) rfl hw (i_in (by omega) (by omega)) (congrArg wd (i_nat ei)) ?_
      refine g_icmp_ne 75 rfl rfl (fun c2 => ?_) (fun c2 => ?_)
      · skip
        rw [if_neg c2] at hm
        exact hQ i hm
      · skip
        replace c2 : T (A + i) = wd (stS v + i) := c2
        rw [if_pos c2] at hm
        refine g_iinc (i := 4) (L1 := [some (.ref 60), some (.int p), some (.int far), some (.int (Int32.ofNat v)), some (.int ((Int32.ofNat (A + i)) + Int32.ofInt 1)), some (.int (Int32.ofNat (stS v + i)))]) rfl rfl rfl ?_
        rw [ofN_add (by omega)]
        refine g_iinc (i := 5) (L1 := [some (.ref 60), some (.int p), some (.int far), some (.int (Int32.ofNat v)), some (.int (Int32.ofNat (A + i + 1))), some (.int ((Int32.ofNat (stS v + i)) + Int32.ofInt 1))]) rfl rfl rfl ?_
        rw [ofN_add (by omega)]
        refine g_goto 24 rfl rfl ?_
        exact ih (i + 1) (by omega) hm
theorem s_word_p {d : Nat} {h : sHp} {J : Nat → Int32} {wd : Nat → Int32} {v : Nat} {far : Int32} {o4 o5 : Option Value} {Q : Option Value → sHp → Prop} (hr : h[60]? = some (mO J)) (hw : h[73]? = some (.inl (0, 42, .inl wd))) (W : WD wd) (hv : v < 7) (hQ : sGo none 193 d 121 [some (.ref 60), some (.int (Int32.ofNat (stS v + wlS v + 1))), some (.int far), some (.int (Int32.ofNat v)), o4, o5] [] h Q) : ∀ (f i : Nat), f + i = wlS v + 1 → sGo none 193 d 106 [some (.ref 60), some (.int (Int32.ofNat (stS v + i))), some (.int far), some (.int (Int32.ofNat v)), o4, o5] [] h Q := by
  have wl := wlS_le v
  have e0 : (0 : Int32).toInt = 0 := rfl
  intro f
  induction f with
  | zero =>
    intro i hi
    have hz := st_z v hv
    have ei := ofN_toInt (n := stS v + i) (by omega)
    have hwi : wd (stS v + i) = 0 := Int32.toInt_inj.mp (by rw [W _ (by omega), show stS v + i = stS v + wlS v + 1 by omega, hz.2, e0])
    refine g_aload_n (i := 0) rfl rfl ?_
    refine g_getfield (v := .ref 73) rfl hr (by decide) rfl ?_
    refine g_iload_n (i := 1) rfl rfl ?_
    refine g_ialv (n := 42) (f := wd) (v := wd (stS v + i)) rfl hw (i_in (by omega) (by omega)) (congrArg wd (i_nat ei)) ?_
    refine g_if_eq 121 rfl rfl (fun _ => ?_) (fun hc => absurd hc (by rw [hwi]; decide))
    rw [show stS v + i = stS v + wlS v + 1 by omega]
    exact hQ
  | succ f ih =>
    intro i hi
    have hz := st_nz v hv i (by omega)
    have ei := ofN_toInt (n := stS v + i) (by omega)
    have ewd := W (stS v + i) hz.1
    have hwi : ¬ wd (stS v + i) = 0 := fun z => hz.2 (by rw [← ewd, z]; rfl)
    refine g_aload_n (i := 0) rfl rfl ?_
    refine g_getfield (v := .ref 73) rfl hr (by decide) rfl ?_
    refine g_iload_n (i := 1) rfl rfl ?_
    refine g_ialv (n := 42) (f := wd) (v := wd (stS v + i)) rfl hw (i_in (by omega) (by omega)) (congrArg wd (i_nat ei)) ?_
    refine g_if_eq 121 rfl rfl (fun hc => absurd hc (by exact hwi)) (fun _ => ?_)
    refine g_iinc (i := 1) (L1 := [some (.ref 60), some (.int ((Int32.ofNat (stS v + i)) + Int32.ofInt 1)), some (.int far), some (.int (Int32.ofNat v)), o4, o5]) rfl rfl rfl ?_
    rw [ofN_add (by omega)]
    refine g_goto 106 rfl rfl ?_
    exact ih (i + 1) (by omega)
def qFw (h : sHp) (J : Nat → Int32) (A : Nat) (q : Option Nat) (r : Option Value) (h' : sHp) : Prop := ∃ J', h' = h.set 60 (mO J') ∧ jS J J' ∧ (match q with
  | some v => r = some (.int (Int32.ofNat v)) ∧ J' 22 = Int32.ofNat (A + (wlS v + 1))
  | none => r = some (.int (Int32.ofInt (-1))))
theorem s_word_go {d : Nat} {h : sHp} {J : Nat → Int32} {cl : Nat → Int64} {S n A : Nat} {T : Nat → Int32} {wd : Nat → Int32} (hr : h[60]? = some (mO J)) (a8 : h[71]? = some (.inl (1, 800, .inr (.inl cl)))) (R : RT cl S n T) (hJ : rtJ J S n A) (hA : A < 900) (hw : h[73]? = some (.inl (0, 42, .inl wd))) (W : WD wd) : ∀ (f v : Nat) (far : Int32) (o4 o5 : Option Value), f + v = 7 → sGo none 193 d 9 [some (.ref 60), some (.int (Int32.ofNat (if v < 7 then stS v else 42))), some (.int far), some (.int (Int32.ofNat v)), o4, o5] [] h (qFw h J A (fwS T wd A f v)) := by
  have hJc := hJ
  have Rc := R
  obtain ⟨j21, j22, j23⟩ := hJ
  have e7 : (Int8.ofInt 7).toInt32.toInt = 7 := rfl
  intro f
  induction f with
  | zero =>
    intro v far o4 o5 hv
    have ev := ofN_toInt (n := v) (by omega)
    refine g_iload_n (i := 3) rfl rfl ?_
    refine g_bipush (n := 7) rfl ?_
    refine g_icmp_ge 130 rfl rfl (fun _ => ?_) (fun hc => absurd hc (by rw [i_le, e7, ev]; omega))
    refine g_aload_n (i := 0) rfl rfl ?_
    refine g_iload_n (i := 2) rfl rfl ?_
    refine g_putfield (h1 := h.set 60 (mO (upd J 25 far))) rfl hr (by decide) (Nat.le_of_ble_eq_true rfl) rfl rfl ?_
    refine g_iconst (n := (-1)) rfl ?_
    refine g_ireturn (ty := .int) rfl rfl rfl ?_
    exact ⟨_, rfl, jS_up (jS_rfl J) (by omega), rfl⟩
  | succ f ih =>
    intro v far o4 o5 hv
    have ev := ofN_toInt (n := v) (by omega)
    have hv7 : v < 7 := by omega
    have wl := wlS_le v
    have hz := st_z v hv7
    rw [if_pos hv7]
    unfold fwS
    refine g_iload_n (i := 3) rfl rfl ?_
    refine g_bipush (n := 7) rfl ?_
    refine g_icmp_ge 130 rfl rfl (fun hc => absurd hc (by rw [i_le, e7, ev]; omega)) (fun _ => ?_)
    refine g_aload_n (i := 0) rfl rfl ?_
    refine g_getfield (v := .int (J 22)) rfl hr (by decide) rfl ?_
    rw [j22]
    refine g_istore (i := 4) (L1 := [some (.ref 60), some (.int (Int32.ofNat (stS v))), some (.int far), some (.int (Int32.ofNat v)), some (.int (Int32.ofNat A)), o5]) rfl (Nat.le_of_ble_eq_true rfl) rfl ?_
    refine g_iload_n (i := 1) rfl rfl ?_
    refine g_istore (i := 5) (L1 := [some (.ref 60), some (.int (Int32.ofNat (stS v))), some (.int far), some (.int (Int32.ofNat v)), some (.int (Int32.ofNat A)), some (.int (Int32.ofNat (stS v)))]) rfl (Nat.le_of_ble_eq_true rfl) rfl ?_
    refine s_word_in hr a8 Rc hJc hA hw W hv7 (fun m hm => ?_) (wlS v + 1) 0 rfl rfl
    have am := amS_le T wd A (stS v) (wlS v + 1) 0
    have em := ofN_toInt (n := stS v + m) (by omega)
    have eAm := ofN_toInt (n := A + m) (by omega)
    refine g_aload_n (i := 0) rfl rfl ?_
    refine g_getfield (v := .ref 73) rfl hr (by decide) rfl ?_
    refine g_iload (i := 5) rfl rfl ?_
    refine g_ialv (n := 42) (f := wd) (v := wd (stS v + m)) rfl hw (i_in (by omega) (by omega)) (congrArg wd (i_nat em)) ?_
    by_cases hf : amS T wd A (stS v) (wlS v + 1) 0 = wlS v + 1
    · skip
      rw [if_pos hf]
      have hw0 : wd (stS v + m) = 0 := Int32.toInt_inj.mp (by rw [W _ (by omega), show stS v + m = stS v + wlS v + 1 by omega, hz.2]; rfl)
      refine g_if_ne 93 rfl rfl (fun hc => absurd hc (by exact fun z => z hw0)) (fun _ => ?_)
      refine g_aload_n (i := 0) rfl rfl ?_
      refine g_iload (i := 4) rfl rfl ?_
      refine g_putfield (h1 := h.set 60 (mO (upd J 22 (Int32.ofNat (A + m))))) rfl hr (by decide) (Nat.le_of_ble_eq_true rfl) rfl rfl ?_
      refine g_iload_n (i := 3) rfl rfl ?_
      refine g_ireturn (ty := .int) rfl rfl rfl ?_
      exact ⟨_, rfl, jS_up (jS_rfl J) (by omega), rfl, by rw [show m = wlS v + 1 by omega]; rfl⟩
    · skip
      rw [if_neg hf]
      have hz2 := st_nz v hv7 m (by omega)
      have hw0 : ¬ wd (stS v + m) = 0 := fun z => hz2.2 (by rw [← W _ hz2.1, z]; rfl)
      refine g_if_ne 93 rfl rfl (fun _ => ?_) (fun hc => absurd hc (by exact hw0))
      have rest : ∀ far2 : Int32, sGo none 193 d 106 [some (.ref 60), some (.int (Int32.ofNat (stS v))), some (.int far2), some (.int (Int32.ofNat v)), some (.int (Int32.ofNat (A + m))), some (.int (Int32.ofNat (stS v + m)))] [] h (qFw h J A (fwS T wd A f (v + 1))) := by
        intro far2
        refine s_word_p (far := far2) hr hw W hv7 ?_ (wlS v + 1) 0 rfl
        refine g_iinc (i := 1) (L1 := [some (.ref 60), some (.int ((Int32.ofNat (stS v + wlS v + 1)) + Int32.ofInt 1)), some (.int far2), some (.int (Int32.ofNat v)), some (.int (Int32.ofNat (A + m))), some (.int (Int32.ofNat (stS v + m)))]) rfl rfl rfl ?_
        rw [ofN_add (by omega)]
        refine g_iinc (i := 3) (L1 := [some (.ref 60), some (.int (Int32.ofNat (stS v + wlS v + 1 + 1))), some (.int far2), some (.int ((Int32.ofNat v) + Int32.ofInt 1)), some (.int (Int32.ofNat (A + m))), some (.int (Int32.ofNat (stS v + m)))]) rfl rfl rfl ?_
        rw [ofN_add (by omega)]
        refine g_goto 9 rfl rfl ?_
        have es : stS v + wlS v + 1 + 1 = if v + 1 < 7 then stS (v + 1) else 42 := by
          by_cases c6 : v + 1 < 7
          · rw [if_pos c6, st_next v (by omega)]
          · rw [if_neg c6, show v = 6 by omega]
            decide
        rw [es]
        exact ih (v + 1) far2 _ _ (by omega)
      refine g_iload (i := 4) rfl rfl ?_
      refine g_iload_n (i := 2) rfl rfl ?_
      refine g_icmp_le 104 rfl rfl (fun c3 => ?_) (fun c3 => ?_)
      · skip
        refine g_iload_n (i := 2) rfl rfl ?_
        refine g_istore_n (i := 2) (L1 := [some (.ref 60), some (.int (Int32.ofNat (stS v))), some (.int far), some (.int (Int32.ofNat v)), some (.int (Int32.ofNat (A + m))), some (.int (Int32.ofNat (stS v + m)))]) rfl (Nat.le_of_ble_eq_true rfl) rfl ?_
        exact rest _
      · skip
        refine g_iload (i := 4) rfl rfl ?_
        refine g_goto 105 rfl rfl ?_
        refine g_istore_n (i := 2) (L1 := [some (.ref 60), some (.int (Int32.ofNat (stS v))), some (.int (Int32.ofNat (A + m))), some (.int (Int32.ofNat v)), some (.int (Int32.ofNat (A + m))), some (.int (Int32.ofNat (stS v + m)))]) rfl (Nat.le_of_ble_eq_true rfl) rfl ?_
        exact rest _
theorem s_wordE {d : Nat} {h : sHp} {J : Nat → Int32} {cl : Nat → Int64} {S n A : Nat} {T : Nat → Int32} {wd : Nat → Int32} (hr : h[60]? = some (mO J)) (a8 : h[71]? = some (.inl (1, 800, .inr (.inl cl)))) (R : RT cl S n T) (hJ : rtJ J S n A) (hA : A < 900) (hw : h[73]? = some (.inl (0, 42, .inl wd))) (W : WD wd) : sDo (d + 1) 193 [.ref 60] h (qFw h J A (fwS T wd A 7 0)) := by
  refine sDo_of (d := d) (nL := 6) (L := [some (.ref 60), none, none, none, none, none]) rfl rfl ?_
  refine g_iconst (n := 0) rfl ?_
  refine g_istore_n (i := 1) (L1 := [some (.ref 60), some (.int (Int32.ofInt 0)), none, none, none, none]) rfl (Nat.le_of_ble_eq_true rfl) rfl ?_
  refine g_aload_n (i := 0) rfl rfl ?_
  refine g_getfield (v := .int (J 22)) rfl hr (by decide) rfl ?_
  refine g_istore_n (i := 2) (L1 := [some (.ref 60), some (.int (Int32.ofInt 0)), some (.int (J 22)), none, none, none]) rfl (Nat.le_of_ble_eq_true rfl) rfl ?_
  refine g_iconst (n := 0) rfl ?_
  refine g_istore_n (i := 3) (L1 := [some (.ref 60), some (.int (Int32.ofInt 0)), some (.int (J 22)), some (.int (Int32.ofInt 0)), none, none]) rfl (Nat.le_of_ble_eq_true rfl) rfl ?_
  exact s_word_go hr a8 R hJ hA hw W 7 0 _ _ _ rfl
end
section
/-! ===== texts: whether the word heir stands ===== -/
def kzS (c : Nat) : Nat := ((wdL.take c).filter (fun x => x == 0)).length
theorem kz_s : ∀ c, c < 36 → kzS c < 6 ∧ ((wdL.getD c 0 = 0 ∧ kzS (c + 1) = kzS c + 1) ∨ (¬ wdL.getD c 0 = 0 ∧ kzS (c + 1) = kzS c)) := by decide
theorem kz_36 : kzS 36 = 6 := by decide
theorem s_wa1 {d : Nat} {h : sHp} {J : Nat → Int32} {wd : Nat → Int32} {Q : Option Value → sHp → Prop} (hr : h[60]? = some (mO J)) (hw : h[73]? = some (.inl (0, 42, .inl wd))) (W : WD wd) (hQ : sGo none 198 d 32 [some (.ref 60), some (.int (Int8.ofInt 6).toInt32), some (.int (Int32.ofNat 36)), some (.int (Int32.ofNat 6))] [] h Q) : ∀ (f c : Nat), f + c = 36 → sGo none 198 d 4 [some (.ref 60), some (.int (Int8.ofInt 6).toInt32), some (.int (Int32.ofNat c)), some (.int (Int32.ofNat (kzS c)))] [] h Q := by
  have e6 : (Int8.ofInt 6).toInt32.toInt = 6 := rfl
  have e0 : (0 : Int32).toInt = 0 := rfl
  intro f
  induction f with
  | zero =>
    intro c hc
    rw [show c = 36 by omega, kz_36]
    have ek : (Int32.ofNat 6).toInt = 6 := rfl
    refine g_iload_n (i := 3) rfl rfl ?_
    refine g_iload_n (i := 1) rfl rfl ?_
    refine g_icmp_ge 32 rfl rfl (fun _ => ?_) (fun hc => absurd hc (by rw [i_le, e6, ek]; omega))
    exact hQ
  | succ f ih =>
    intro c hc
    have kz := kz_s c (by omega)
    have ec := ofN_toInt (n := c) (by omega)
    have ek := ofN_toInt (n := kzS c) (by omega)
    have ew := W c (by omega)
    refine g_iload_n (i := 3) rfl rfl ?_
    refine g_iload_n (i := 1) rfl rfl ?_
    refine g_icmp_ge 32 rfl rfl (fun hc => absurd hc (by rw [i_le, e6, ek]; omega)) (fun _ => ?_)
    refine g_iload_n (i := 3) rfl rfl ?_
    refine g_aload_n (i := 0) rfl rfl ?_
    refine g_getfield (v := .ref 73) rfl hr (by decide) rfl ?_
    refine g_iload_n (i := 2) rfl rfl ?_
    refine g_ialv (n := 42) (f := wd) (v := wd c) rfl hw (i_in (by omega) (by omega)) (congrArg wd (i_nat ec)) ?_
    rcases kz.2 with ⟨k1, k2⟩ | ⟨k1, k2⟩
    · skip
      refine g_if_ne 23 rfl rfl (fun hc => absurd hc (by exact fun z => z (Int32.toInt_inj.mp (by rw [ew, k1, e0])))) (fun _ => ?_)
      refine g_iconst (n := 1) rfl ?_
      refine g_goto 24 rfl rfl ?_
      refine g_iadd rfl ?_
      rw [ofN_add (by omega), ← k2]
      refine g_istore_n (i := 3) (L1 := [some (.ref 60), some (.int (Int8.ofInt 6).toInt32), some (.int (Int32.ofNat c)), some (.int (Int32.ofNat (kzS (c + 1))))]) rfl (Nat.le_of_ble_eq_true rfl) rfl ?_
      refine g_iinc (i := 2) (L1 := [some (.ref 60), some (.int (Int8.ofInt 6).toInt32), some (.int ((Int32.ofNat c) + Int32.ofInt 1)), some (.int (Int32.ofNat (kzS (c + 1))))]) rfl rfl rfl ?_
      rw [ofN_add (by omega)]
      refine g_goto 4 rfl rfl ?_
      exact ih (c + 1) (by omega)
    · skip
      refine g_if_ne 23 rfl rfl (fun _ => ?_) (fun hc => absurd hc (by exact fun z => k1 (by rw [← ew, z]; rfl)))
      refine g_iconst (n := 0) rfl ?_
      refine g_iadd rfl ?_
      rw [show Int32.ofNat (kzS c) + Int32.ofInt 0 = Int32.ofNat (kzS (c + 1)) by rw [k2]; exact Int32.add_zero _]
      refine g_istore_n (i := 3) (L1 := [some (.ref 60), some (.int (Int8.ofInt 6).toInt32), some (.int (Int32.ofNat c)), some (.int (Int32.ofNat (kzS (c + 1))))]) rfl (Nat.le_of_ble_eq_true rfl) rfl ?_
      refine g_iinc (i := 2) (L1 := [some (.ref 60), some (.int (Int8.ofInt 6).toInt32), some (.int ((Int32.ofNat c) + Int32.ofInt 1)), some (.int (Int32.ofNat (kzS (c + 1))))]) rfl rfl rfl ?_
      rw [ofN_add (by omega)]
      refine g_goto 4 rfl rfl ?_
      exact ih (c + 1) (by omega)
theorem wd_heir : ∀ i, i < 4 → 32 < wdL.getD (36 + i) 0 ∧ wdL.getD (36 + i) 0 = (sTxC 6 i).toInt := by decide
theorem s_wa2 {d : Nat} {h : sHp} {J : Nat → Int32} {cl : Nat → Int64} {S n A : Nat} {T : Nat → Int32} {wd : Nat → Int32} (hr : h[60]? = some (mO J)) (a8 : h[71]? = some (.inl (1, 800, .inr (.inl cl)))) (R : RT cl S n T) (hJ : rtJ J S n A) (hA : A < 900) (hw : h[73]? = some (.inl (0, 42, .inl wd))) (W : WD wd) : ∀ (f i : Nat), f + i = 4 → sGo none 198 d 37 [some (.ref 60), some (.int (Int8.ofInt 6).toInt32), some (.int (Int32.ofNat (36 + i))), some (.int (Int32.ofNat (A + i)))] [] h (fun r h' => h' = h ∧ r = some (.int (if alS T A 6 f i = 4 then 1 else 0))) := by
  obtain ⟨j21, j22, j23⟩ := hJ
  obtain ⟨R1, R2, R3, R4⟩ := R
  have en := ofN_toInt (n := n) (by omega)
  have e32 : (Int8.ofInt 32).toInt32.toInt = 32 := rfl
  intro f
  induction f with
  | zero =>
    intro i hi
    have ei := ofN_toInt (n := 36 + i) (by omega)
    have hwi : (wd (36 + i)).toInt = 32 := by rw [W _ (by omega), show i = 4 by omega]; rfl
    have e0 : (0 : Int32).toInt = 0 := rfl
    unfold alS
    rw [if_pos (show i = 4 by omega)]
    refine g_aload_n (i := 0) rfl rfl ?_
    refine g_getfield (v := .ref 73) rfl hr (by decide) rfl ?_
    refine g_iload_n (i := 2) rfl rfl ?_
    refine g_ialv (n := 42) (f := wd) (v := wd (36 + i)) rfl hw (i_in (by omega) (by omega)) (congrArg wd (i_nat ei)) ?_
    refine g_bipush (n := 32) rfl ?_
    refine g_icmp_le 86 rfl rfl (fun _ => ?_) (fun hc => absurd hc (by rw [i_le, hwi, e32]; omega))
    refine g_aload_n (i := 0) rfl rfl ?_
    refine g_getfield (v := .ref 73) rfl hr (by decide) rfl ?_
    refine g_iload_n (i := 2) rfl rfl ?_
    refine g_ialv (n := 42) (f := wd) (v := wd (36 + i)) rfl hw (i_in (by omega) (by omega)) (congrArg wd (i_nat ei)) ?_
    refine g_bipush (n := 32) rfl ?_
    refine g_icmp_gt 101 rfl rfl (fun hc => absurd hc (by rw [i_lt, hwi, e32]; omega)) (fun _ => ?_)
    refine g_iconst (n := 1) rfl ?_
    refine g_goto 102 rfl rfl ?_
    refine g_ireturn (ty := .boolean) rfl rfl (by decide) ?_
    exact ⟨rfl, rfl⟩
  | succ f ih =>
    intro i hi
    have ei := ofN_toInt (n := 36 + i) (by omega)
    have eA := ofN_toInt (n := A + i) (by omega)
    have ewd := W (36 + i) (by omega)
    have hwh := wd_heir i (by omega)
    have al := alS_le T A 6 f (i + 1)
    have e0 : (0 : Int32).toInt = 0 := rfl
    have hws : wd (36 + i) = sTxC 6 i := Int32.toInt_inj.mp (by rw [ewd, hwh.2])
    have hwn : ¬ wd (36 + i) = 0 := fun z => by rw [z, e0] at ewd; omega
    unfold alS
    refine g_aload_n (i := 0) rfl rfl ?_
    refine g_getfield (v := .ref 73) rfl hr (by decide) rfl ?_
    refine g_iload_n (i := 2) rfl rfl ?_
    refine g_ialv (n := 42) (f := wd) (v := wd (36 + i)) rfl hw (i_in (by omega) (by omega)) (congrArg wd (i_nat ei)) ?_
    refine g_bipush (n := 32) rfl ?_
    refine g_icmp_le 86 rfl rfl (fun hc => absurd hc (by rw [i_le, ewd, e32]; omega)) (fun _ => ?_)
    refine g_iload_n (i := 3) rfl rfl ?_
    refine g_aload_n (i := 0) rfl rfl ?_
    refine g_getfield (v := .int (J 23)) rfl hr (by decide) rfl ?_
    refine g_icmp_ge 86 rfl rfl (fun c1 => ?_) (fun c1 => ?_)
    · skip
      rw [j23, i_le, en, eA] at c1
      rw [if_neg (show ¬ T (A + i) = sTxC 6 i from by rw [R4 _ (by omega), ← hws]; exact fun z => hwn z.symm), if_neg (show ¬ i = 4 by omega)]
      refine g_aload_n (i := 0) rfl rfl ?_
      refine g_getfield (v := .ref 73) rfl hr (by decide) rfl ?_
      refine g_iload_n (i := 2) rfl rfl ?_
      refine g_ialv (n := 42) (f := wd) (v := wd (36 + i)) rfl hw (i_in (by omega) (by omega)) (congrArg wd (i_nat ei)) ?_
      refine g_bipush (n := 32) rfl ?_
      refine g_icmp_gt 101 rfl rfl (fun _ => ?_) (fun hc => absurd hc (by rw [i_lt, ewd, e32]; omega))
      refine g_iconst (n := 0) rfl ?_
      refine g_ireturn (ty := .boolean) rfl rfl (by decide) ?_
      exact ⟨rfl, rfl⟩
    · skip
      rw [j23, i_le, en, eA] at c1
      have eb : (Int32.ofNat (100 * S)).toInt = ((100 * S : Nat) : Int) := Int32.toInt_ofNat_of_lt (by omega)
      have eba : (Int32.ofNat (100 * S) + Int32.ofNat (A + i)).toInt = ((100 * S + (A + i) : Nat) : Int) := by rw [i_add (by rw [eb, eA]; omega) (by rw [eb, eA]; omega), eb, eA]; omega
      refine g_aload_n (i := 0) rfl rfl ?_
      refine g_getfield (v := .ref 71) rfl hr (by decide) rfl ?_
      refine g_aload_n (i := 0) rfl rfl ?_
      refine g_getfield (v := .int (J 21)) rfl hr (by decide) rfl ?_
      refine g_iload_n (i := 3) rfl rfl ?_
      refine g_iadd rfl ?_
      rw [j21]
      refine g_laload (n := 800) (f := cl) rfl a8 (i_in (by omega) (by omega)) ?_
      rw [i_nat eba]
      refine g_l2i rfl ?_
      rw [R3 (A + i) (by omega)]
      refine g_aload_n (i := 0) rfl rfl ?_
      refine g_getfield (v := .ref 73) rfl hr (by decide) rfl ?_
      refine g_iload_n (i := 2) rfl rfl ?_
      refine g_ialv (n := 42) (f := wd) (v := wd (36 + i)) rfl hw (i_in (by omega) (by omega)) (congrArg wd (i_nat ei)) ?_
      refine g_icmp_ne 86 rfl rfl (fun c2 => ?_) (fun c2 => ?_)
      · skip
        rw [if_neg (show ¬ T (A + i) = sTxC 6 i from by rw [← hws]; exact c2), if_neg (show ¬ i = 4 by omega)]
        refine g_aload_n (i := 0) rfl rfl ?_
        refine g_getfield (v := .ref 73) rfl hr (by decide) rfl ?_
        refine g_iload_n (i := 2) rfl rfl ?_
        refine g_ialv (n := 42) (f := wd) (v := wd (36 + i)) rfl hw (i_in (by omega) (by omega)) (congrArg wd (i_nat ei)) ?_
        refine g_bipush (n := 32) rfl ?_
        refine g_icmp_gt 101 rfl rfl (fun _ => ?_) (fun hc => absurd hc (by rw [i_lt, ewd, e32]; omega))
        refine g_iconst (n := 0) rfl ?_
        refine g_ireturn (ty := .boolean) rfl rfl (by decide) ?_
        exact ⟨rfl, rfl⟩
      · skip
        rw [if_pos (show T (A + i) = sTxC 6 i by rw [← hws]; exact c2)]
        refine g_iinc (i := 3) (L1 := [some (.ref 60), some (.int (Int8.ofInt 6).toInt32), some (.int (Int32.ofNat (36 + i))), some (.int ((Int32.ofNat (A + i)) + Int32.ofInt 1))]) rfl rfl rfl ?_
        rw [ofN_add (by omega)]
        refine g_iinc (i := 2) (L1 := [some (.ref 60), some (.int (Int8.ofInt 6).toInt32), some (.int ((Int32.ofNat (36 + i)) + Int32.ofInt 1)), some (.int (Int32.ofNat (A + i + 1)))]) rfl rfl rfl ?_
        rw [ofN_add (by omega)]
        refine g_goto 37 rfl rfl ?_
        exact ih (i + 1) (by omega)
theorem s_isWordAt {d : Nat} {h : sHp} {J : Nat → Int32} {cl : Nat → Int64} {S n A : Nat} {T : Nat → Int32} {wd : Nat → Int32} (hr : h[60]? = some (mO J)) (a8 : h[71]? = some (.inl (1, 800, .inr (.inl cl)))) (R : RT cl S n T) (hJ : rtJ J S n A) (hA : A < 900) (hw : h[73]? = some (.inl (0, 42, .inl wd))) (W : WD wd) : sDo (d + 1) 198 [.ref 60, .int (Int8.ofInt 6).toInt32] h (fun r h' => h' = h ∧ r = some (.int (if alS T A 6 4 0 = 4 then 1 else 0))) := by
  refine sDo_of (d := d) (nL := 4) (L := [some (.ref 60), some (.int (Int8.ofInt 6).toInt32), none, none]) rfl rfl ?_
  refine g_iconst (n := 0) rfl ?_
  refine g_istore_n (i := 2) (L1 := [some (.ref 60), some (.int (Int8.ofInt 6).toInt32), some (.int (Int32.ofInt 0)), none]) rfl (Nat.le_of_ble_eq_true rfl) rfl ?_
  refine g_iconst (n := 0) rfl ?_
  refine g_istore_n (i := 3) (L1 := [some (.ref 60), some (.int (Int8.ofInt 6).toInt32), some (.int (Int32.ofInt 0)), some (.int (Int32.ofInt 0))]) rfl (Nat.le_of_ble_eq_true rfl) rfl ?_
  refine s_wa1 hr hw W ?_ 36 0 rfl
  refine g_aload_n (i := 0) rfl rfl ?_
  refine g_getfield (v := .int (J 22)) rfl hr (by decide) rfl ?_
  rw [hJ.2.1]
  refine g_istore_n (i := 3) (L1 := [some (.ref 60), some (.int (Int8.ofInt 6).toInt32), some (.int (Int32.ofNat 36)), some (.int (Int32.ofNat A))]) rfl (Nat.le_of_ble_eq_true rfl) rfl ?_
  exact s_wa2 hr a8 R hJ hA hw W 4 0 rfl
theorem s_isWordFull {d : Nat} {h : sHp} {J : Nat → Int32} (hr : h[60]? = some (mO J)) : sDo (d + 1) 197 [.ref 60, .int (Int8.ofInt 6).toInt32] h (fun r h' => h' = h ∧ r = some (.int (if J 6 = 5 then 1 else 0))) := by
  refine sDo_of (d := d) (nL := 2) (L := [some (.ref 60), some (.int (Int8.ofInt 6).toInt32)]) rfl rfl ?_
  refine g_iload_n (i := 1) rfl rfl ?_
  refine g_bipush (n := 6) rfl ?_
  refine g_icmp_ne 18 rfl rfl (fun hc => absurd hc (by exact fun z => z rfl)) (fun _ => ?_)
  refine g_aload_n (i := 0) rfl rfl ?_
  refine g_getfield (v := .int (J 6)) rfl hr (by decide) rfl ?_
  refine g_iconst (n := 5) rfl ?_
  refine g_icmp_ne 18 rfl rfl (fun c1 => ?_) (fun c1 => ?_)
  · skip
    rw [if_neg (show ¬ J 6 = 5 from c1)]
    refine g_iconst (n := 0) rfl ?_
    refine g_ireturn (ty := .boolean) rfl rfl (by decide) ?_
    exact ⟨rfl, rfl⟩
  · skip
    rw [if_pos (show J 6 = 5 from c1)]
    refine g_iconst (n := 1) rfl ?_
    refine g_goto 19 rfl rfl ?_
    refine g_ireturn (ty := .boolean) rfl rfl (by decide) ?_
    exact ⟨rfl, rfl⟩
end
section
/-! ===== texts: one word alone stands ===== -/
theorem al_iff {T : Nat → Int32} {p v : Nat} : ∀ f i, alS T p v f i = i + f ↔ ∀ j, j < f → T (p + (i + j)) = sTxC v (i + j) := by
  intro f
  induction f with
  | zero => intro i; exact ⟨fun _ j hj => by omega, fun _ => rfl⟩
  | succ f ih =>
    intro i
    have le := alS_le T p v f (i + 1)
    unfold alS
    by_cases c : T (p + i) = sTxC v i
    · rw [if_pos c, show i + (f + 1) = (i + 1) + f by omega, ih (i + 1)]
      refine ⟨fun h j hj => ?_, fun h j hj => ?_⟩
      · cases j with
        | zero => exact c
        | succ j => have := h j (by omega); rw [show i + 1 + j = i + (j + 1) by omega] at this; exact this
      · have := h (j + 1) (by omega)
        rw [show i + (j + 1) = i + 1 + j by omega] at this
        exact this
    · rw [if_neg c]
      exact ⟨fun h => by omega, fun h => absurd (h 0 (by omega)) c⟩
theorem am_iff {T wd : Nat → Int32} {p c0 : Nat} : ∀ f i, amS T wd p c0 f i = i + f ↔ ∀ j, j < f → T (p + (i + j)) = wd (c0 + (i + j)) := by
  intro f
  induction f with
  | zero => intro i; exact ⟨fun _ j hj => by omega, fun _ => rfl⟩
  | succ f ih =>
    intro i
    have le := amS_le T wd p c0 f (i + 1)
    unfold amS
    by_cases c : T (p + i) = wd (c0 + i)
    · rw [if_pos c, show i + (f + 1) = (i + 1) + f by omega, ih (i + 1)]
      refine ⟨fun h j hj => ?_, fun h j hj => ?_⟩
      · cases j with
        | zero => exact c
        | succ j => have := h j (by omega); rw [show i + 1 + j = i + (j + 1) by omega] at this; exact this
      · have := h (j + 1) (by omega)
        rw [show i + (j + 1) = i + 1 + j by omega] at this
        exact this
    · rw [if_neg c]
      exact ⟨fun h => by omega, fun h => absurd (h 0 (by omega)) c⟩
/-- a word's letters stand -/
def mWd (T : Nat → Int32) (p v : Nat) : Prop := alS T p v (wlS v) 0 = wlS v
theorem wd_32 {wd : Nat → Int32} (W : WD wd) : ∀ v, v < 7 → (∀ i, i < wlS v → wd (stS v + i) = sTxC v i) ∧ wd (stS v + wlS v) = 32 := by
  intro v hv
  have hz := st_z v hv
  refine ⟨fun i hi => Int32.toInt_inj.mp (by rw [W _ (by omega), st_let v hv i hi]), Int32.toInt_inj.mp (by rw [W _ (by omega), st_bl v hv]; rfl)⟩
theorem full_iff {T wd : Nat → Int32} {p v : Nat} (W : WD wd) (hv : v < 7) : amS T wd p (stS v) (wlS v + 1) 0 = wlS v + 1 ↔ (mWd T p v ∧ T (p + wlS v) = 32) := by
  obtain ⟨w1, w2⟩ := wd_32 W v hv
  have a := am_iff (T := T) (wd := wd) (p := p) (c0 := stS v) (wlS v + 1) 0
  have b := al_iff (T := T) (p := p) (v := v) (wlS v) 0
  rw [Nat.zero_add] at a b
  unfold mWd
  rw [a, b]
  refine ⟨fun h => ⟨fun j hj => ?_, ?_⟩, fun h j hj => ?_⟩
  · have := h j (by omega)
    rw [Nat.zero_add] at this ⊢
    rw [this, w1 j hj]
  · have := h (wlS v) (by omega)
    rw [Nat.zero_add] at this
    rw [this, w2]
  · rw [Nat.zero_add]
    by_cases e : j < wlS v
    · have := h.1 j e
      rw [Nat.zero_add] at this
      rw [this, w1 j e]
    · rw [show j = wlS v by omega, h.2, w2]
theorem two_let : ∀ v, v < 7 → ∀ u, u < 7 → (sTxC v 0).toInt = (sTxC u 0).toInt → (sTxC v 1).toInt = (sTxC u 1).toInt → v = u := by decide
theorem wl_2 : ∀ v, v < 7 → 2 ≤ wlS v := by decide
theorem mW_one {T : Nat → Int32} {p v u : Nat} (hv : v < 7) (hu : u < 7) (a : mWd T p v) (b : mWd T p u) : v = u := by
  have a' := (al_iff (T := T) (p := p) (v := v) (wlS v) 0).mp (by rw [Nat.zero_add]; exact a)
  have b' := (al_iff (T := T) (p := p) (v := u) (wlS u) 0).mp (by rw [Nat.zero_add]; exact b)
  have l1 := wl_2 v hv
  have l2 := wl_2 u hu
  exact two_let v hv u hu (congrArg Int32.toInt ((a' 0 (by omega)).symm.trans (b' 0 (by omega)))) (congrArg Int32.toInt ((a' 1 (by omega)).symm.trans (b' 1 (by omega))))
theorem wdS_iff {T : Nat → Int32} {p : Nat} : ∀ {f v x : Nat}, v + f ≤ 7 → (wdS T p f v = some x ↔ (v ≤ x ∧ x < v + f ∧ mWd T p x)) := by
  intro f
  induction f with
  | zero => intro v x _; exact ⟨fun h => (by cases h), fun h => (by omega)⟩
  | succ f ih =>
    intro v x hl
    unfold wdS
    by_cases c : alS T p v (wlS v) 0 = wlS v
    · rw [if_pos c]
      refine ⟨fun h => ?_, fun h => ?_⟩
      · cases h
        exact ⟨Nat.le_refl _, by omega, c⟩
      · exact congrArg some (mW_one (by omega) (by omega) c h.2.2)
    · rw [if_neg c, ih (by omega)]
      refine ⟨fun h => ⟨by omega, by omega, h.2.2⟩, fun h => ⟨?_, by omega, h.2.2⟩⟩
      by_cases e : v = x
      · rw [e] at c
        exact absurd h.2.2 c
      · omega
theorem fwS_iff {T wd : Nat → Int32} {p : Nat} (W : WD wd) : ∀ {f v x : Nat}, v + f ≤ 7 → (fwS T wd p f v = some x ↔ (v ≤ x ∧ x < v + f ∧ mWd T p x ∧ T (p + wlS x) = 32)) := by
  intro f
  induction f with
  | zero => intro v x _; exact ⟨fun h => (by cases h), fun h => (by omega)⟩
  | succ f ih =>
    intro v x hl
    unfold fwS
    have fi := full_iff (T := T) (p := p) W (show v < 7 by omega)
    by_cases c : amS T wd p (stS v) (wlS v + 1) 0 = wlS v + 1
    · rw [if_pos c]
      have c2 := fi.mp c
      refine ⟨fun h => ?_, fun h => ?_⟩
      · cases h
        exact ⟨Nat.le_refl _, by omega, c2.1, c2.2⟩
      · exact congrArg some (mW_one (by omega) (by omega) c2.1 h.2.2.1)
    · rw [if_neg c, ih (by omega)]
      refine ⟨fun h => ⟨by omega, by omega, h.2.2⟩, fun h => ⟨?_, by omega, h.2.2⟩⟩
      by_cases e : v = x
      · rw [e] at c fi
        exact absurd (fi.mpr h.2.2) c
      · omega
/-- the item as the reference reads it is the class's -/
theorem itm_fw {T wd : Nat → Int32} {p : Nat} {s : Sg} (W : WD wd) (h5 : s.2.2 ≤ 5) : (alS T p 6 4 0 = 4 ∧ s.2.2 = 5 → itmS T p s = none) ∧ (¬ (alS T p 6 4 0 = 4 ∧ s.2.2 = 5) → (fwS T wd p 7 0 = none → itmS T p s = none) ∧ ∀ v, fwS T wd p 7 0 = some v → v < 7 ∧ wdS T p (if s.2.2 < 5 then 7 else 6) 0 = some v ∧ T (p + wlS v) = 32 ∧ (v = 6 → s.2.2 < 5)) := by
  have nx : ∀ v lo hi, ¬ T (p + wlS v) = 32 → nxtS T (p + wlS v) lo hi = none := fun v lo hi h => if_neg h
  have none_of : ∀ v, wdS T p (if s.2.2 < 5 then 7 else 6) 0 = some v → ¬ T (p + wlS v) = 32 → itmS T p s = none := by
    intro v hw hn
    have vl := wdS_lt hw
    have v7 : v < 7 := by
      by_cases c5 : s.2.2 < 5
      · rw [if_pos c5] at vl; omega
      · rw [if_neg c5] at vl; omega
    unfold itmS
    rw [hw]
    match v, v7, hn with
    | 0, _, hn => show sizS T (p + wlS 0) = none; unfold sizS; rw [nx 0 _ _ hn]
    | 1, _, hn => show soiS T (p + wlS 1) _ = none; unfold soiS; rw [nx 1 _ _ hn]
    | 2, _, hn => show plcS T (p + wlS 2) _ _ _ = none; unfold plcS; rw [nx 2 _ _ hn]
    | 3, _, hn => show plcS T (p + wlS 3) _ _ _ = none; unfold plcS; rw [nx 3 _ _ hn]
    | 4, _, hn => show plcS T (p + wlS 4) _ _ _ = none; unfold plcS; rw [nx 4 _ _ hn]
    | 5, _, hn => show plcS T (p + wlS 5) _ _ _ = none; unfold plcS; rw [nx 5 _ _ hn]
    | 6, _, hn => show heiS T (p + wlS 6) _ = none; unfold heiS; rw [nx 6 _ _ hn]
    | k + 7, v7, _ => exact absurd v7 (by omega)
  have w67 : ∀ v, wdS T p (if s.2.2 < 5 then 7 else 6) 0 = some v ↔ (v < (if s.2.2 < 5 then 7 else 6) ∧ mWd T p v) := by
    intro v
    rw [wdS_iff (show 0 + (if s.2.2 < 5 then 7 else 6) ≤ 7 by split <;> omega)]
    exact ⟨fun h => ⟨by omega, h.2.2⟩, fun h => ⟨Nat.zero_le _, by omega, h.2⟩⟩
  have nn : wdS T p (if s.2.2 < 5 then 7 else 6) 0 = none → itmS T p s = none := fun h => by unfold itmS; rw [h]
  refine ⟨fun h => ?_, fun h => ⟨fun hf => ?_, fun v hf => ?_⟩⟩
  · refine nn ?_
    cases hw : wdS T p (if s.2.2 < 5 then 7 else 6) 0 with
    | none => rfl
    | some v =>
      have k := (w67 v).mp hw
      rw [if_neg (by omega)] at k
      have := mW_one (show 6 < 7 by decide) (by omega) (show mWd T p 6 from h.1) k.2
      omega
  · cases hw : wdS T p (if s.2.2 < 5 then 7 else 6) 0 with
    | none => exact nn hw
    | some v =>
      refine none_of v hw (fun hb => ?_)
      have k := (w67 v).mp hw
      have v7 : v < 7 := by
        by_cases c5 : s.2.2 < 5
        · rw [if_pos c5] at k; omega
        · rw [if_neg c5] at k; omega
      have := (fwS_iff W (show 0 + 7 ≤ 7 by omega)).mpr ⟨Nat.zero_le _, by omega, k.2, hb⟩
      rw [hf] at this
      cases this
  · have k := (fwS_iff W (show 0 + 7 ≤ 7 by omega)).mp hf
    have k6 : v = 6 → s.2.2 < 5 := fun z => by
      by_cases c5 : s.2.2 < 5
      · exact c5
      · have k2 := k.2.2.1
        rw [z] at k2
        exact absurd ⟨k2, by omega⟩ h
    refine ⟨by omega, (w67 v).mpr ⟨?_, k.2.2.1⟩, k.2.2.2, k6⟩
    by_cases c5 : s.2.2 < 5
    · rw [if_pos c5]; omega
    · rw [if_neg c5]
      have : ¬ v = 6 := fun z => c5 (k6 z)
      omega
end
