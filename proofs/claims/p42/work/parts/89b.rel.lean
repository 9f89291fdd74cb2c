/-! ===== texts: soil, heirs, items ===== -/
/-- width, height, heirs: what a text's items hang on -/
def Sg : Type := Nat × Nat × Nat
def sgI (c : CF) (s : Sg) : Prop := c.1 0 = Int32.ofNat s.1 ∧ c.1 1 = Int32.ofNat s.2.1 ∧ c.1 11 = Int32.ofNat s.2.2 ∧ 2 ≤ s.1 ∧ s.1 ≤ 8 ∧ 2 ≤ s.2.1 ∧ s.2.1 ≤ 8 ∧ s.2.2 ≤ 5
theorem sq_le {s : Sg} (h1 : s.1 ≤ 8) (h2 : s.2.1 ≤ 8) : s.1 * s.2.1 ≤ 64 := Nat.mul_le_mul h1 h2
theorem sq_ge {s : Sg} (h1 : 2 ≤ s.1) (h2 : 2 ≤ s.2.1) : 4 ≤ s.1 * s.2.1 := Nat.mul_le_mul h1 h2
theorem sg_sq {c : CF} {s : Sg} (q : sgI c s) : (c.1 0 * c.1 1).toInt = (s.1 * s.2.1 : Nat) ∧ (c.1 0 * c.1 1 - Int32.ofInt 1).toInt = ((s.1 * s.2.1 : Nat) : Int) - 1 := by
  obtain ⟨q1, q2, -, l1, l2, l3, l4, -⟩ := q
  have k1 := sq_le (s := s) l2 l4
  have k2 := sq_ge (s := s) l1 l3
  have e1 : (Int32.ofInt 1).toInt = 1 := rfl
  have m : (c.1 0 * c.1 1).toInt = (s.1 * s.2.1 : Nat) := by
    rw [q1, q2]
    have em : (Int32.ofNat s.1).toInt * (Int32.ofNat s.2.1).toInt = ((s.1 * s.2.1 : Nat) : Int) := by rw [ofN_toInt (by omega), ofN_toInt (by omega)]; exact (Int.natCast_mul ..).symm
    rw [i_mul (by rw [em]; omega) (by rw [em]; omega), em]
  exact ⟨m, by rw [i_sub (by rw [m, e1]; omega) (by rw [m, e1]; omega), m, e1]⟩
def soiS (T : Nat → Int32) (p : Nat) (m : Int) : Option (List Act × Nat) := match nxtS T p 0 5 with
  | some (v, p1) => (match nxtS T p1 0 m with
    | some (fr, p2) => (match nxtS T p2 fr m with
      | some (to, p3) => some ([((1, v, fr, to) : Act)], p3)
      | none => none)
    | none => none)
  | none => none
theorem s_readSoil {d : Nat} {h : sHp} {rp tp ep n A : Nat} {ot flt : Int32} {el : Nat → Int64} {c : CF} {s : Sg} (hr : h[rp]? = some (rd tp flt A)) (ht : h[tp]? = some (.inr (7, [.int ot, .int (Int32.ofNat n), .ref ep]))) (he : h[ep]? = some (.inl (1, 100, .inr (.inl el)))) (hn : n ≤ 100) (F : FC h 27 c) (h1 : 79 ≤ rp) (h2 : 44 ≤ tp ∧ tp < 60) (h3 : 44 ≤ ep ∧ ep < 60) (hA : A < 890) (hs : sgI c s) : sDo (d + 5) 75 [.ref rp] h (qRd rp tp flt h c (soiS (tx el n) A (((s.1 * s.2.1 : Nat) : Int) - 1))) := by
  have sq := sg_sq hs
  have sq64 := sq_le (s := s) hs.2.2.2.2.1 hs.2.2.2.2.2.2.1
  have em1 : (Int32.ofInt (-1)).toInt = -1 := rfl
  have e0 : (Int32.ofInt 0).toInt = 0 := rfl
  have hn1 := s_readNumber (d := 0) (lo := Int32.ofInt 0) (hi := Int32.ofInt 5) hr ht he hn (by omega) (by omega) (show rp ≠ tp by omega) (show rp ≠ ep by omega)
  rw [e0, show (Int32.ofInt 5).toInt = 5 from rfl] at hn1
  unfold soiS
  generalize hm : ((s.1 * s.2.1 : Nat) : Int) - 1 = m at sq
  refine sDo_of (d := d + 4) (nL := 4) (L := [some (.ref rp), none, none, none]) rfl rfl ?_
  refine g_aload_n (i := 0) rfl rfl ?_
  refine g_iconst (n := 0) rfl ?_
  refine g_iconst (n := 5) rfl ?_
  refine g_virt2 rfl (by decide) rfl hr rfl (Nat.le_of_ble_eq_true rfl) (sDo_up (d := 4) (by omega) hn1) (fun r h_1 hq => ?_)
  cases hs1 : nxtS (tx el n) A 0 5 with
  | none =>
    rw [hs1] at hq
    obtain ⟨rfl, F1, A1, hF1, rfl⟩ := hq
    refine g_istore_n (i := 1) (L1 := [some (.ref rp), some (.int (Int32.ofInt (-1))), none, none]) rfl (Nat.le_of_ble_eq_true rfl) rfl ?_
    refine g_iload_n (i := 1) rfl rfl ?_
    refine g_iconst (n := (-1)) rfl ?_
    refine g_icmp_ne 16 rfl rfl (fun hc => absurd hc (by exact fun z => z rfl)) (fun _ => ?_)
    refine g_iconst (n := (-1)) rfl ?_
    refine g_goto 30 rfl rfl ?_
    refine g_istore_n (i := 2) (L1 := [some (.ref rp), some (.int (Int32.ofInt (-1))), some (.int (Int32.ofInt (-1))), none]) rfl (Nat.le_of_ble_eq_true rfl) rfl ?_
    refine g_iload_n (i := 2) rfl rfl ?_
    refine g_iconst (n := (-1)) rfl ?_
    refine g_icmp_ne 40 rfl rfl (fun hc => absurd hc (by exact fun z => z rfl)) (fun _ => ?_)
    refine g_iconst (n := (-1)) rfl ?_
    refine g_goto 54 rfl rfl ?_
    refine g_istore_n (i := 3) (L1 := [some (.ref rp), some (.int (Int32.ofInt (-1))), some (.int (Int32.ofInt (-1))), some (.int (Int32.ofInt (-1)))]) rfl (Nat.le_of_ble_eq_true rfl) rfl ?_
    refine g_iload_n (i := 3) rfl rfl ?_
    refine g_iconst (n := (-1)) rfl ?_
    refine g_icmp_ne 62 rfl rfl (fun hc => absurd hc (by exact fun z => z rfl)) (fun _ => ?_)
    refine g_iconst (n := 0) rfl ?_
    refine g_ireturn (ty := .boolean) rfl rfl (by decide) ?_
    exact ⟨rfl, F1, _, hF1, s_set_eq hr, (by first | exact gE_rp gE_rfl | exact gE_rp (gE_rp gE_rfl) | exact gE_rp (gE_rp (gE_rp gE_rfl)) | exact gE_rp G)⟩
  | some vp =>
    obtain ⟨v1, A1⟩ := vp
    rw [hs1] at hq
    obtain ⟨rfl, rfl⟩ := hq
    have b1 := nxtS_le hs1
    have ev1 := ofN_toInt (n := v1) (by omega)
    have em1 : (Int32.ofInt (-1)).toInt = -1 := rfl
    refine g_istore_n (i := 1) (L1 := [some (.ref rp), some (.int (Int32.ofNat v1)), none, none]) rfl (Nat.le_of_ble_eq_true rfl) rfl ?_
    refine g_iload_n (i := 1) rfl rfl ?_
    refine g_iconst (n := (-1)) rfl ?_
    refine g_icmp_ne 16 rfl rfl (fun _ => ?_) (fun hc => absurd hc (by intro z; rw [z, em1] at ev1; omega))
    have r1 : (h.set rp (rd tp flt A1))[rp]? = some (rd tp flt A1) := s_set_eq hr
    have G1 := FC_out (x := rd tp flt A1) F (show rp < 27 ∨ 27 + 10 < rp by omega)
    have hn2 := s_readNumber (d := 0) (lo := Int32.ofInt 0) (hi := c.1 0 * c.1 1 - Int32.ofInt 1) r1 (by rw [s_set_ne (by omega)]; exact ht) (by rw [s_set_ne (by omega)]; exact he) hn (by omega) (by omega) (show rp ≠ tp by omega) (show rp ≠ ep by omega)
    rw [e0, sq.2] at hn2
    dsimp only
    refine g_aload_n (i := 0) rfl rfl ?_
    refine g_iconst (n := 0) rfl ?_
    refine g_aload_n (i := 0) rfl rfl ?_
    refine g_getfield (v := .ref 27) rfl r1 (by decide) rfl ?_
    refine g_virt0 (Qc := fun r h' => h' = _ ∧ r = some (.int (c.1 0 * c.1 1))) rfl (by decide) rfl G1.1 rfl (Nat.le_of_ble_eq_true rfl) (sDo_up (d := 1) (by omega) (s_squares (d := 0) G1)) (fun r h9 hq => ?_)
    obtain ⟨rfl, rfl⟩ := hq
    refine g_iconst (n := 1) rfl ?_
    refine g_isub rfl ?_
    refine g_virt2 rfl (by decide) rfl r1 rfl (Nat.le_of_ble_eq_true rfl) (sDo_up (d := 4) (by omega) hn2) (fun r h_2 hq => ?_)
    cases hs2 : nxtS (tx el n) A1 0 m with
    | none =>
      rw [hs2] at hq
      obtain ⟨rfl, F1, A1, hF1, rfl⟩ := hq
      refine g_istore_n (i := 2) (L1 := [some (.ref rp), some (.int (Int32.ofNat v1)), some (.int (Int32.ofInt (-1))), none]) rfl (Nat.le_of_ble_eq_true rfl) rfl ?_
      refine g_iload_n (i := 2) rfl rfl ?_
      refine g_iconst (n := (-1)) rfl ?_
      refine g_icmp_ne 40 rfl rfl (fun hc => absurd hc (by exact fun z => z rfl)) (fun _ => ?_)
      refine g_iconst (n := (-1)) rfl ?_
      refine g_goto 54 rfl rfl ?_
      refine g_istore_n (i := 3) (L1 := [some (.ref rp), some (.int (Int32.ofNat v1)), some (.int (Int32.ofInt (-1))), some (.int (Int32.ofInt (-1)))]) rfl (Nat.le_of_ble_eq_true rfl) rfl ?_
      refine g_iload_n (i := 3) rfl rfl ?_
      refine g_iconst (n := (-1)) rfl ?_
      refine g_icmp_ne 62 rfl rfl (fun hc => absurd hc (by exact fun z => z rfl)) (fun _ => ?_)
      refine g_iconst (n := 0) rfl ?_
      refine g_ireturn (ty := .boolean) rfl rfl (by decide) ?_
      exact ⟨rfl, F1, _, hF1, s_set_eq r1, (by first | exact gE_rp gE_rfl | exact gE_rp (gE_rp gE_rfl) | exact gE_rp (gE_rp (gE_rp gE_rfl)) | exact gE_rp G)⟩
    | some vp =>
      obtain ⟨v2, A2⟩ := vp
      rw [hs2] at hq
      obtain ⟨rfl, rfl⟩ := hq
      have b2 := nxtS_le hs2
      have ev2 := ofN_toInt (n := v2) (by omega)
      have em1 : (Int32.ofInt (-1)).toInt = -1 := rfl
      refine g_istore_n (i := 2) (L1 := [some (.ref rp), some (.int (Int32.ofNat v1)), some (.int (Int32.ofNat v2)), none]) rfl (Nat.le_of_ble_eq_true rfl) rfl ?_
      refine g_iload_n (i := 2) rfl rfl ?_
      refine g_iconst (n := (-1)) rfl ?_
      refine g_icmp_ne 40 rfl rfl (fun _ => ?_) (fun hc => absurd hc (by intro z; rw [z, em1] at ev2; omega))
      have r2 : ((h.set rp (rd tp flt A1)).set rp (rd tp flt A2))[rp]? = some (rd tp flt A2) := s_set_eq r1
      have G2 := FC_out (x := rd tp flt A2) G1 (show rp < 27 ∨ 27 + 10 < rp by omega)
      have hn3 := s_readNumber (d := 0) (lo := Int32.ofNat v2) (hi := c.1 0 * c.1 1 - Int32.ofInt 1) r2 (by rw [s_set_ne (by omega), s_set_ne (by omega)]; exact ht) (by rw [s_set_ne (by omega), s_set_ne (by omega)]; exact he) hn (by omega) (by omega) (show rp ≠ tp by omega) (show rp ≠ ep by omega)
      rw [ev2, sq.2] at hn3
      dsimp only
      refine g_aload_n (i := 0) rfl rfl ?_
      refine g_iload_n (i := 2) rfl rfl ?_
      refine g_aload_n (i := 0) rfl rfl ?_
      refine g_getfield (v := .ref 27) rfl r2 (by decide) rfl ?_
      refine g_virt0 (Qc := fun r h' => h' = _ ∧ r = some (.int (c.1 0 * c.1 1))) rfl (by decide) rfl G2.1 rfl (Nat.le_of_ble_eq_true rfl) (sDo_up (d := 1) (by omega) (s_squares (d := 0) G2)) (fun r h9 hq => ?_)
      obtain ⟨rfl, rfl⟩ := hq
      refine g_iconst (n := 1) rfl ?_
      refine g_isub rfl ?_
      refine g_virt2 rfl (by decide) rfl r2 rfl (Nat.le_of_ble_eq_true rfl) (sDo_up (d := 4) (by omega) hn3) (fun r h_3 hq => ?_)
      cases hs3 : nxtS (tx el n) A2 v2 m with
      | none =>
        rw [hs3] at hq
        obtain ⟨rfl, F1, A1, hF1, rfl⟩ := hq
        refine g_istore_n (i := 3) (L1 := [some (.ref rp), some (.int (Int32.ofNat v1)), some (.int (Int32.ofNat v2)), some (.int (Int32.ofInt (-1)))]) rfl (Nat.le_of_ble_eq_true rfl) rfl ?_
        refine g_iload_n (i := 3) rfl rfl ?_
        refine g_iconst (n := (-1)) rfl ?_
        refine g_icmp_ne 62 rfl rfl (fun hc => absurd hc (by exact fun z => z rfl)) (fun _ => ?_)
        refine g_iconst (n := 0) rfl ?_
        refine g_ireturn (ty := .boolean) rfl rfl (by decide) ?_
        exact ⟨rfl, F1, _, hF1, s_set_eq r2, (by first | exact gE_rp gE_rfl | exact gE_rp (gE_rp gE_rfl) | exact gE_rp (gE_rp (gE_rp gE_rfl)) | exact gE_rp G)⟩
      | some vp =>
        obtain ⟨v3, A3⟩ := vp
        rw [hs3] at hq
        obtain ⟨rfl, rfl⟩ := hq
        have b3 := nxtS_le hs3
        have ev3 := ofN_toInt (n := v3) (by omega)
        have em1 : (Int32.ofInt (-1)).toInt = -1 := rfl
        refine g_istore_n (i := 3) (L1 := [some (.ref rp), some (.int (Int32.ofNat v1)), some (.int (Int32.ofNat v2)), some (.int (Int32.ofNat v3))]) rfl (Nat.le_of_ble_eq_true rfl) rfl ?_
        refine g_iload_n (i := 3) rfl rfl ?_
        refine g_iconst (n := (-1)) rfl ?_
        refine g_icmp_ne 62 rfl rfl (fun _ => ?_) (fun hc => absurd hc (by intro z; rw [z, em1] at ev3; omega))
        have r3 : (((h.set rp (rd tp flt A1)).set rp (rd tp flt A2)).set rp (rd tp flt A3))[rp]? = some (rd tp flt A3) := s_set_eq r2
        have G3 := FC_out (x := rd tp flt A3) G2 (show rp < 27 ∨ 27 + 10 < rp by omega)
        refine g_aload_n (i := 0) rfl rfl ?_
        refine g_getfield (v := .ref 27) rfl r3 (by decide) rfl ?_
        refine g_aload_n (i := 0) rfl rfl ?_
        refine g_getfield (v := .ref 27) rfl r3 (by decide) rfl ?_
        refine g_iload_n (i := 3) rfl rfl ?_
        refine g_iconst (n := 1) rfl ?_
        refine g_iadd rfl ?_
        rw [ofN_add (by omega)]
        refine g_virt1 (Qc := fun r h' => h' = _ ∧ r = some (.long (lowS (Int32.ofNat (v3 + 1)) &&& c.2.1 2))) rfl (by decide) rfl G3.1 rfl (Nat.le_of_ble_eq_true rfl) (sDo_up (d := 2) (by omega) (s_below (d := 0) G3)) (fun r h9 hq => ?_)
        obtain ⟨rfl, rfl⟩ := hq
        refine g_aload_n (i := 0) rfl rfl ?_
        refine g_getfield (v := .ref 27) rfl r3 (by decide) rfl ?_
        refine g_iload_n (i := 2) rfl rfl ?_
        refine g_virt1 (Qc := fun r h' => h' = _ ∧ r = some (.long (lowS (Int32.ofNat v2) &&& c.2.1 2))) rfl (by decide) rfl G3.1 rfl (Nat.le_of_ble_eq_true rfl) (sDo_up (d := 2) (by omega) (s_below (d := 0) G3)) (fun r h9 hq => ?_)
        obtain ⟨rfl, rfl⟩ := hq
        refine g_ldc2_w (j := 18446744073709551615) rfl ?_
        refine g_lxor rfl ?_
        refine g_land rfl ?_
        refine g_iload_n (i := 1) rfl rfl ?_
        refine g_virt2 rfl (by decide) rfl G3.1 rfl (Nat.le_of_ble_eq_true rfl) (sDo_up (d := 2) (by omega) (s_laySoil (d := 0) G3 ev1 (by omega))) (fun r h9 hq => ?_)
        obtain ⟨rfl, rfl⟩ := hq
        refine g_iconst (n := 1) rfl ?_
        refine g_ireturn (ty := .boolean) rfl rfl (by decide) ?_
        exact ⟨rfl, by rw [s_set_ne (by omega)]; exact r3, FC_1 G3, gE_f (gE_rp (gE_rp (gE_rp gE_rfl))) (fE_set fE_rfl (by omega) (by omega))⟩
def wrtS (T : Nat → Int32) (E : Nat) : Nat → Nat → Nat → Option (List Act × Nat)
  | 0, _, p => some ([], p)
  | f + 1, v, p => match nxtS T p 0 99 with
    | some (x, p') => (match wrtS T E f (v + 1) p' with
      | some (as, p2) => some ((((4, E, v, x) : Act) :: as), p2)
      | none => none)
    | none => none
theorem s_readHeir_go {d : Nat} {h0 : sHp} {rp tp ep n E : Nat} {ot flt : Int32} {el : Nat → Int64} {share : Int32} (hn : n ≤ 100) (h1 : 79 ≤ rp) (h2 : 44 ≤ tp ∧ tp < 60) (h3 : 44 ≤ ep ∧ ep < 60) (hE : E < 5) (hd : 4 ≤ d) : ∀ (f v A : Nat) (h : sHp) (c : CF) (o4 : Option Value), f + v = 6 → A + 3 * f < 890 → h[rp]? = some (rd tp flt A) → h[tp]? = some (.inr (7, [.int ot, .int (Int32.ofNat n), .ref ep])) → h[ep]? = some (.inl (1, 100, .inr (.inl el))) → FC h 27 c → gE rp h0 h → sGo none 77 d 41 [some (.ref rp), some (.int share), some (.int (Int32.ofNat E)), some (.int (Int32.ofNat v)), o4] [] h (qRd rp tp flt h0 c (wrtS (tx el n) E f v A)) := by
  have em1 : (Int32.ofInt (-1)).toInt = -1 := rfl
  have e6 : (Int8.ofInt 6).toInt32.toInt = 6 := rfl
  have eE := ofN_toInt (n := E) (by omega)
  intro f
  induction f with
  | zero =>
    intro v A h c o4 hv hA hr ht he F G
    have ev := ofN_toInt (n := v) (by omega)
    refine g_iload_n (i := 3) rfl rfl ?_
    refine g_bipush (n := 6) rfl ?_
    refine g_icmp_ge 83 rfl rfl (fun _ => ?_) (fun hc => absurd hc (by rw [i_le, e6, ev]; omega))
    refine g_iconst (n := 1) rfl ?_
    refine g_ireturn (ty := .boolean) rfl rfl (by decide) ?_
    exact ⟨rfl, hr, F, G⟩
  | succ f ih =>
    intro v A h c o4 hv hA hr ht he F G
    have ev := ofN_toInt (n := v) (by omega)
    have hn1 := s_readNumber (d := 0) (lo := Int32.ofInt 0) (hi := (Int8.ofInt 99).toInt32) hr ht he hn (by omega) (by omega) (show rp ≠ tp by omega) (show rp ≠ ep by omega)
    rw [show (Int32.ofInt 0).toInt = 0 from rfl, show (Int8.ofInt 99).toInt32.toInt = 99 from rfl] at hn1
    unfold wrtS
    refine g_iload_n (i := 3) rfl rfl ?_
    refine g_bipush (n := 6) rfl ?_
    refine g_icmp_ge 83 rfl rfl (fun hc => absurd hc (by rw [i_le, e6, ev]; omega)) (fun _ => ?_)
    refine g_aload_n (i := 0) rfl rfl ?_
    refine g_iconst (n := 0) rfl ?_
    refine g_bipush (n := 99) rfl ?_
    refine g_virt2 rfl (by decide) rfl hr rfl (Nat.le_of_ble_eq_true rfl) (sDo_up (d := 4) (by omega) hn1) (fun r h_1 hq => ?_)
    cases hs1 : nxtS (tx el n) A 0 99 with
    | none =>
      rw [hs1] at hq
      obtain ⟨rfl, F1, A1, hF1, rfl⟩ := hq
      refine g_istore (i := 4) (L1 := [some (.ref rp), some (.int share), some (.int (Int32.ofNat E)), some (.int (Int32.ofNat v)), some (.int (Int32.ofInt (-1)))]) rfl (Nat.le_of_ble_eq_true rfl) rfl ?_
      refine g_iload (i := 4) rfl rfl ?_
      refine g_iconst (n := (-1)) rfl ?_
      refine g_icmp_ne 64 rfl rfl (fun hc => absurd hc (by exact fun z => z rfl)) (fun _ => ?_)
      refine g_iconst (n := 0) rfl ?_
      refine g_ireturn (ty := .boolean) rfl rfl (by decide) ?_
      exact ⟨rfl, F1, _, hF1, s_set_eq hr, (by first | exact gE_rp gE_rfl | exact gE_rp (gE_rp gE_rfl) | exact gE_rp (gE_rp (gE_rp gE_rfl)) | exact gE_rp G)⟩
    | some vp =>
      obtain ⟨v1, A1⟩ := vp
      rw [hs1] at hq
      obtain ⟨rfl, rfl⟩ := hq
      have b1 := nxtS_le hs1
      have ev1 := ofN_toInt (n := v1) (by omega)
      have em1 : (Int32.ofInt (-1)).toInt = -1 := rfl
      refine g_istore (i := 4) (L1 := [some (.ref rp), some (.int share), some (.int (Int32.ofNat E)), some (.int (Int32.ofNat v)), some (.int (Int32.ofNat v1))]) rfl (Nat.le_of_ble_eq_true rfl) rfl ?_
      refine g_iload (i := 4) rfl rfl ?_
      refine g_iconst (n := (-1)) rfl ?_
      refine g_icmp_ne 64 rfl rfl (fun _ => ?_) (fun hc => absurd hc (by intro z; rw [z, em1] at ev1; omega))
      have r1 : (h.set rp (rd tp flt A1))[rp]? = some (rd tp flt A1) := s_set_eq hr
      have G1 := FC_out (x := rd tp flt A1) F (show rp < 27 ∨ 27 + 10 < rp by omega)
      have G1c := G1
      obtain ⟨a0, -, -, ⟨fw, a3, a4⟩, a5, -⟩ := G1c
      have fE5 : va_rf (fw (Int32.ofNat E).toNatClampNeg) = .ref (27 + 4 + E) := by rw [i_nat eE, a4 E hE]; rfl
      refine g_aload_n (i := 0) rfl rfl ?_
      refine g_getfield (v := .ref 27) rfl r1 (by decide) rfl ?_
      refine g_getfield (v := .ref (27 + 3)) rfl a0 (by decide) rfl ?_
      refine g_iload_n (i := 2) rfl rfl ?_
      refine g_aaload rfl a3 (by decide) (i_in (by omega) (by omega)) ?_
      rw [fE5]
      refine g_iload_n (i := 3) rfl rfl ?_
      refine g_iload (i := 4) rfl rfl ?_
      refine g_iastore (h1 := (h.set rp (rd tp flt A1)).set (27 + 4 + E) (.inl (0, 6, .inl (upd (c.2.2.2.2.1 E) v (Int32.ofNat v1))))) rfl (a5 E hE) (i_in (by omega) (by omega)) (by rw [i_nat ev]) ?_
      refine g_iinc (i := 3) (L1 := [some (.ref rp), some (.int share), some (.int (Int32.ofNat E)), some (.int ((Int32.ofNat v) + Int32.ofInt 1)), some (.int (Int32.ofNat v1))]) rfl rfl rfl ?_
      rw [ofN_add (by omega)]
      refine g_goto 41 rfl rfl ?_
      have key := ih (v + 1) A1 ((h.set rp (rd tp flt A1)).set (27 + 4 + E) (.inl (0, 6, .inl (upd (c.2.2.2.2.1 E) v (Int32.ofNat v1))))) _ (some (.int (Int32.ofNat v1))) (by omega) (by omega) (by rw [s_set_ne (by omega)]; exact r1) (by rw [s_set_ne (by omega), s_set_ne (by omega)]; exact ht) (by rw [s_set_ne (by omega), s_set_ne (by omega)]; exact he) (FC_4 G1 hE) (gE_f (gE_rp G) (fE_set fE_rfl (by omega) (by omega)))
      dsimp only
      cases hw : wrtS (tx el n) E f (v + 1) A1 with
      | none => rw [hw] at key; exact key
      | some q => obtain ⟨as, p2⟩ := q; rw [hw] at key; exact key
def heiS (T : Nat → Int32) (p E : Nat) : Option (List Act × Nat) := match nxtS T p 1 9 with
  | some (share, p1) => (match wrtS T E 6 0 p1 with
    | some (as, p2) => some ((((3, share, 0, 0) : Act) :: as), p2)
    | none => none)
  | none => none
theorem s_readHeir {d : Nat} {h : sHp} {rp tp ep n A : Nat} {ot flt : Int32} {el : Nat → Int64} {c : CF} {E : Nat} (hr : h[rp]? = some (rd tp flt A)) (ht : h[tp]? = some (.inr (7, [.int ot, .int (Int32.ofNat n), .ref ep]))) (he : h[ep]? = some (.inl (1, 100, .inr (.inl el)))) (hn : n ≤ 100) (F : FC h 27 c) (h1 : 79 ≤ rp) (h2 : 44 ≤ tp ∧ tp < 60) (h3 : 44 ≤ ep ∧ ep < 60) (hA : A < 860) (hI : c.1 11 = Int32.ofNat E) (hE : E < 5) : sDo (d + 5) 77 [.ref rp] h (qRd rp tp flt h c (heiS (tx el n) A E)) := by
  have em1 : (Int32.ofInt (-1)).toInt = -1 := rfl
  have eE := ofN_toInt (n := E) (by omega)
  have eE1 := ofN_toInt (n := E + 1) (by omega)
  have hn1 := s_readNumber (d := 0) (lo := Int32.ofInt 1) (hi := (Int8.ofInt 9).toInt32) hr ht he hn (by omega) (by omega) (show rp ≠ tp by omega) (show rp ≠ ep by omega)
  rw [show (Int32.ofInt 1).toInt = 1 from rfl, show (Int8.ofInt 9).toInt32.toInt = 9 from rfl] at hn1
  unfold heiS
  refine sDo_of (d := d + 4) (nL := 5) (L := [some (.ref rp), none, none, none, none]) rfl rfl ?_
  refine g_aload_n (i := 0) rfl rfl ?_
  refine g_iconst (n := 1) rfl ?_
  refine g_bipush (n := 9) rfl ?_
  refine g_virt2 rfl (by decide) rfl hr rfl (Nat.le_of_ble_eq_true rfl) (sDo_up (d := 4) (by omega) hn1) (fun r h_1 hq => ?_)
  cases hs1 : nxtS (tx el n) A 1 9 with
  | none =>
    rw [hs1] at hq
    obtain ⟨rfl, F1, A1, hF1, rfl⟩ := hq
    have r1 : (h.set rp (rd tp (Int32.ofNat F1) A1))[rp]? = some (rd tp (Int32.ofNat F1) A1) := s_set_eq hr
    have G1 := FC_out (x := rd tp (Int32.ofNat F1) A1) F (show rp < 27 ∨ 27 + 10 < rp by omega)
    refine g_istore_n (i := 1) (L1 := [some (.ref rp), some (.int (Int32.ofInt (-1))), none, none, none]) rfl (Nat.le_of_ble_eq_true rfl) rfl ?_
    refine g_iload_n (i := 1) rfl rfl ?_
    refine g_iconst (n := (-1)) rfl ?_
    refine g_icmp_ne 17 rfl rfl (fun hc => absurd hc (by exact fun z => z rfl)) (fun _ => ?_)
    refine g_iconst (n := (-1)) rfl ?_
    refine g_goto 25 rfl rfl ?_
    refine g_istore_n (i := 2) (L1 := [some (.ref rp), some (.int (Int32.ofInt (-1))), some (.int (Int32.ofInt (-1))), none, none]) rfl (Nat.le_of_ble_eq_true rfl) rfl ?_
    refine g_aload_n (i := 0) rfl rfl ?_
    refine g_getfield (v := .ref 27) rfl r1 (by decide) rfl ?_
    refine g_iload_n (i := 2) rfl rfl ?_
    refine g_virt1 (Qc := fun r h' => h' = _ ∧ r = some (.int 0)) rfl (by decide) rfl G1.1 rfl (Nat.le_of_ble_eq_true rfl) (sDo_up (d := 1) (by omega) (s_isHeir3 (d := 0) G1 (by rw [em1, if_neg (by omega)]))) (fun r h9 hq => ?_)
    obtain ⟨rfl, rfl⟩ := hq
    refine g_if_ne 39 rfl rfl (fun hc => absurd hc (by decide)) (fun _ => ?_)
    refine g_iconst (n := 0) rfl ?_
    refine g_ireturn (ty := .boolean) rfl rfl (by decide) ?_
    exact ⟨rfl, F1, _, hF1, r1, (by first | exact gE_rp gE_rfl | exact gE_rp (gE_rp gE_rfl) | exact gE_rp (gE_rp (gE_rp gE_rfl)) | exact gE_rp G)⟩
  | some vp =>
    obtain ⟨v1, A1⟩ := vp
    rw [hs1] at hq
    obtain ⟨rfl, rfl⟩ := hq
    have b1 := nxtS_le hs1
    have ev1 := ofN_toInt (n := v1) (by omega)
    have em1 : (Int32.ofInt (-1)).toInt = -1 := rfl
    refine g_istore_n (i := 1) (L1 := [some (.ref rp), some (.int (Int32.ofNat v1)), none, none, none]) rfl (Nat.le_of_ble_eq_true rfl) rfl ?_
    refine g_iload_n (i := 1) rfl rfl ?_
    refine g_iconst (n := (-1)) rfl ?_
    refine g_icmp_ne 17 rfl rfl (fun _ => ?_) (fun hc => absurd hc (by intro z; rw [z, em1] at ev1; omega))
    have r1 : (h.set rp (rd tp flt A1))[rp]? = some (rd tp flt A1) := s_set_eq hr
    have G1 := FC_out (x := rd tp flt A1) F (show rp < 27 ∨ 27 + 10 < rp by omega)
    refine g_aload_n (i := 0) rfl rfl ?_
    refine g_getfield (v := .ref 27) rfl r1 (by decide) rfl ?_
    refine g_iload_n (i := 1) rfl rfl ?_
    refine g_virt1 rfl (by decide) rfl G1.1 rfl (Nat.le_of_ble_eq_true rfl) (sDo_up (d := 1) (by omega) (s_addHeir (d := 0) G1 hI hE)) (fun r h9 hq => ?_)
    obtain ⟨rfl, q1, q2⟩ := hq
    have r2 := fE_at q2 r1 (by omega)
    refine g_istore_n (i := 2) (L1 := [some (.ref rp), some (.int (Int32.ofNat v1)), some (.int (Int32.ofNat E)), none, none]) rfl (Nat.le_of_ble_eq_true rfl) rfl ?_
    refine g_aload_n (i := 0) rfl rfl ?_
    refine g_getfield (v := .ref 27) rfl r2 (by decide) rfl ?_
    refine g_iload_n (i := 2) rfl rfl ?_
    refine g_virt1 (Qc := fun r h' => h' = h9 ∧ r = some (.int 1)) rfl (by decide) rfl q1.1 rfl (Nat.le_of_ble_eq_true rfl) (sDo_up (d := 1) (by omega) (s_isHeir3 (d := 0) q1 (by show (1 : Int32) = if 0 ≤ (Int32.ofNat E).toInt ∧ (Int32.ofNat E).toInt < (Int32.ofNat (E + 1)).toInt ∧ (Int32.ofNat E).toInt < 5 then 1 else 0; rw [eE, eE1, if_pos (by omega)]))) (fun r h8 hq => ?_)
    obtain ⟨rfl, rfl⟩ := hq
    refine g_if_ne 39 rfl rfl (fun _ => ?_) (fun hc => absurd hc (by decide))
    refine g_iconst (n := 0) rfl ?_
    refine g_istore_n (i := 3) (L1 := [some (.ref rp), some (.int (Int32.ofNat v1)), some (.int (Int32.ofNat E)), some (.int (Int32.ofInt 0)), none]) rfl (Nat.le_of_ble_eq_true rfl) rfl ?_
    have key := s_readHeir_go (d := d + 4) (h0 := h) (ot := ot) (el := el) (n := n) (share := Int32.ofNat v1) hn h1 h2 h3 hE (by omega) 6 0 A1 _ _ none rfl (by omega) r2 (fE_at q2 (by rw [s_set_ne (by omega)]; exact ht) (by omega)) (fE_at q2 (by rw [s_set_ne (by omega)]; exact he) (by omega)) q1 (gE_f (gE_rp gE_rfl) q2)
    dsimp only
    have hcl : (c.1 11).toNatClampNeg = E := by rw [hI]; exact i_nat eE
    cases hw : wrtS (tx el n) E 6 0 A1 with
    | none => rw [hw] at key; exact key
    | some q =>
      obtain ⟨as, p2⟩ := q
      rw [hw] at key
      have e : cfDo c (3, v1, 0, 0) = cfHeir E (Int32.ofNat v1) c := by
        show cfHeir (c.1 11).toNatClampNeg (Int32.ofNat v1) c = _
        rw [hcl]
      have e2 : List.foldl cfDo c (((3, v1, 0, 0) : Act) :: as) = List.foldl cfDo (cfHeir E (Int32.ofNat v1) c) as := congrArg (fun z => List.foldl cfDo z as) e
      unfold qRd at key ⊢
      dsimp only at key ⊢
      rw [e2]
      exact key
