/-! ===== texts: an item, all items ===== -/
def sgDo (s : Sg) (a : Act) : Sg := match a with
  | (0, w, hh, _) => (w, hh, s.2.2)
  | (3, _, _, _) => (s.1, s.2.1, s.2.2 + 1)
  | _ => s
def itmS (T : Nat → Int32) (p : Nat) (s : Sg) : Option (List Act × Nat) := match wdS T p (if s.2.2 < 5 then 7 else 6) 0 with
  | some 0 => sizS T (p + wlS 0)
  | some 1 => soiS T (p + wlS 1) (((s.1 * s.2.1 : Nat) : Int) - 1)
  | some 2 => plcS T (p + wlS 2) 0 0 3
  | some 3 => plcS T (p + wlS 3) 1 0 (((s.1 * s.2.1 : Nat) : Int) - 1)
  | some 4 => plcS T (p + wlS 4) 2 0 (((s.1 * s.2.1 : Nat) : Int) - 1)
  | some 5 => plcS T (p + wlS 5) 3 0 20
  | some 6 => heiS T (p + wlS 6) s.2.2
  | _ => none
theorem wdS_lt {T : Nat → Int32} {p : Nat} : ∀ {f v x : Nat}, wdS T p f v = some x → v ≤ x ∧ x < v + f := by
  intro f
  induction f with
  | zero => intro v x h; cases h
  | succ f ih =>
    intro v x h
    unfold wdS at h
    split at h
    · cases h
      omega
    · have := ih h
      omega
theorem qRd_tr {rp tp : Nat} {flt : Int32} {h h1 h' : sHp} {c : CF} {q : Option (List Act × Nat)} {r : Option Value} (g : gE rp h h1) (a : qRd rp tp flt h1 c q r h') : qRd rp tp flt h c q r h' := by
  unfold qRd at a ⊢
  split at a
  · exact ⟨a.1, a.2.1, a.2.2.1, gE_tr g a.2.2.2⟩
  · obtain ⟨b1, F1, A1, b2, b3, b4⟩ := a
    exact ⟨b1, F1, A1, b2, b3, gE_tr g b4⟩
theorem qRd_b {rp tp : Nat} {flt : Int32} {h h' : sHp} {c : CF} {q : Option (List Act × Nat)} {r : Option Value} (a : qRd rp tp flt h c q r h') : r = some (.int 0) ∨ r = some (.int 1) := by
  unfold qRd at a
  split at a
  · exact Or.inr a.1
  · exact Or.inl a.1
theorem s_readItem {d : Nat} {h : sHp} {rp tp ep n A : Nat} {ot flt : Int32} {el : Nat → Int64} {c : CF} {s : Sg} (hr : h[rp]? = some (rd tp flt A)) (ht : h[tp]? = some (.inr (7, [.int ot, .int (Int32.ofNat n), .ref ep]))) (he : h[ep]? = some (.inl (1, 100, .inr (.inl el)))) (hn : n ≤ 100) (F : FC h 27 c) (h1 : 79 ≤ rp) (h2 : 44 ≤ tp ∧ tp < 60) (h3 : 44 ≤ ep ∧ ep < 60) (hA : A < 850) (hs : sgI c s) : sDo (d + 7) 68 [.ref rp] h (qRd rp tp flt h c (itmS (tx el n) A s)) := by
  have sq := sg_sq hs
  have hwd := s_readWord (d := 0) (H := s.2.2) hr ht he hn (by omega) F.1 (show some (Value.int (c.1 11)) = _ by rw [hs.2.2.1]) hs.2.2.2.2.2.2.2
  have hF : sFk 68 4 = some (.tableswitch 108 0 6 #[44, 49, 54, 62, 78, 94, 103]) := rfl
  unfold itmS
  refine sDo_of (d := d + 6) (nL := 1) (L := [some (.ref rp)]) rfl rfl ?_
  refine g_aload_n (i := 0) rfl rfl ?_
  refine g_virt0 rfl (by decide) rfl hr rfl (Nat.le_of_ble_eq_true rfl) (sDo_up (d := 6) (by omega) hwd) (fun r h_1 hq => ?_)
  cases hw : wdS (tx el n) A (if s.2.2 < 5 then 7 else 6) 0 with
  | none =>
    rw [hw] at hq
    obtain ⟨rfl, F1, A1, hF1, rfl⟩ := hq
    refine go_jmp (pc1 := 112) (st1 := []) hF rfl rfl ?_
    refine g_iconst (n := 0) rfl ?_
    refine g_ireturn (ty := .boolean) rfl rfl (by decide) ?_
    exact ⟨rfl, F1, A1, hF1, s_set_eq hr, (by first | exact gE_rp gE_rfl | exact gE_rp (gE_rp gE_rfl) | exact gE_rp (gE_rp (gE_rp gE_rfl)) | exact gE_rp G)⟩
  | some v =>
    rw [hw] at hq
    obtain ⟨rfl, rfl⟩ := hq
    have vl := wdS_lt hw
    have v7 : v < 7 := by
      by_cases c5 : s.2.2 < 5
      · rw [if_pos c5] at vl; omega
      · rw [if_neg c5] at vl; omega
    have wl := wlS_le v
    have r1 : (h.set rp (rd tp flt (A + wlS v)))[rp]? = some (rd tp flt (A + wlS v)) := s_set_eq hr
    have t1 : (h.set rp (rd tp flt (A + wlS v)))[tp]? = some (.inr (7, [.int ot, .int (Int32.ofNat n), .ref ep])) := by rw [s_set_ne (by omega)]; exact ht
    have p1 : (h.set rp (rd tp flt (A + wlS v)))[ep]? = some (.inl (1, 100, .inr (.inl el))) := by rw [s_set_ne (by omega)]; exact he
    have G1 := FC_out (x := rd tp flt (A + wlS v)) F (show rp < 27 ∨ 27 + 10 < rp by omega)
    have E1 : gE rp h (h.set rp (rd tp flt (A + wlS v))) := gE_rp gE_rfl
    have h6 : v = 6 → s.2.2 < 5 := fun z => by
      by_cases c5 : s.2.2 < 5
      · exact c5
      · rw [if_neg c5] at vl; omega
    match v, v7, wl, r1, t1, p1, G1, E1, h6 with
  | 0, _, wl, r1, t1, p1, G1, E1, h6 =>
    refine go_jmp (pc1 := 48) (st1 := []) hF rfl rfl ?_
    refine g_aload_n (i := 0) rfl rfl ?_
    refine g_virt0 rfl (by decide) rfl r1 rfl (Nat.le_of_ble_eq_true rfl) (sDo_up (d := 5) (by omega) (s_readSize (d := 0) r1 t1 p1 hn G1 h1 h2 h3 (by omega))) (fun r h_2 hq => ?_)
    have hb := qRd_b hq
    have hq := qRd_tr E1 hq
    rcases hb with rfl | rfl
    · refine g_ireturn (ty := .boolean) rfl rfl (by decide) ?_
      exact hq
    · refine g_ireturn (ty := .boolean) rfl rfl (by decide) ?_
      exact hq
  | 1, _, wl, r1, t1, p1, G1, E1, h6 =>
    refine go_jmp (pc1 := 53) (st1 := []) hF rfl rfl ?_
    refine g_aload_n (i := 0) rfl rfl ?_
    refine g_virt0 rfl (by decide) rfl r1 rfl (Nat.le_of_ble_eq_true rfl) (sDo_up (d := 5) (by omega) (s_readSoil (d := 0) r1 t1 p1 hn G1 h1 h2 h3 (by omega) hs)) (fun r h_2 hq => ?_)
    have hb := qRd_b hq
    have hq := qRd_tr E1 hq
    rcases hb with rfl | rfl
    · refine g_ireturn (ty := .boolean) rfl rfl (by decide) ?_
      exact hq
    · refine g_ireturn (ty := .boolean) rfl rfl (by decide) ?_
      exact hq
  | 2, _, wl, r1, t1, p1, G1, E1, h6 =>
    refine go_jmp (pc1 := 58) (st1 := []) hF rfl rfl ?_
    refine g_aload_n (i := 0) rfl rfl ?_
    refine g_iconst (n := 0) rfl ?_
    refine g_iconst (n := 0) rfl ?_
    refine g_iconst (n := 3) rfl ?_
    have hpl := s_readPlace (d := 0) (wh := Int32.ofInt 0) (lo := Int32.ofInt 0) (hi := Int32.ofInt 3) (K := 0) r1 t1 p1 hn G1 h1 h2 h3 (by omega) (by decide) rfl
    rw [show (Int32.ofInt 0).toInt = 0 from rfl, show (Int32.ofInt 3).toInt = 3 from rfl] at hpl
    refine g_virt3 rfl (by decide) rfl r1 rfl (Nat.le_of_ble_eq_true rfl) (sDo_up (d := 5) (by omega) (hpl)) (fun r h_2 hq => ?_)
    have hb := qRd_b hq
    have hq := qRd_tr E1 hq
    rcases hb with rfl | rfl
    · refine g_ireturn (ty := .boolean) rfl rfl (by decide) ?_
      exact hq
    · refine g_ireturn (ty := .boolean) rfl rfl (by decide) ?_
      exact hq
  | 3, _, wl, r1, t1, p1, G1, E1, h6 =>
    refine go_jmp (pc1 := 66) (st1 := []) hF rfl rfl ?_
    refine g_aload_n (i := 0) rfl rfl ?_
    refine g_iconst (n := 1) rfl ?_
    refine g_iconst (n := 0) rfl ?_
    refine g_aload_n (i := 0) rfl rfl ?_
    refine g_getfield (v := .ref 27) rfl r1 (by decide) rfl ?_
    refine g_virt0 (Qc := fun r h' => h' = _ ∧ r = some (.int (c.1 0 * c.1 1))) rfl (by decide) rfl G1.1 rfl (Nat.le_of_ble_eq_true rfl) (sDo_up (d := 1) (by omega) (s_squares (d := 0) G1)) (fun r h9 hq => ?_)
    obtain ⟨rfl, rfl⟩ := hq
    refine g_iconst (n := 1) rfl ?_
    refine g_isub rfl ?_
    have hpl := s_readPlace (d := 0) (wh := Int32.ofInt 1) (lo := Int32.ofInt 0) (hi := c.1 0 * c.1 1 - Int32.ofInt 1) (K := 1) r1 t1 p1 hn G1 h1 h2 h3 (by omega) (by decide) rfl
    rw [show (Int32.ofInt 0).toInt = 0 from rfl, sq.2] at hpl
    refine g_virt3 rfl (by decide) rfl r1 rfl (Nat.le_of_ble_eq_true rfl) (sDo_up (d := 5) (by omega) (hpl)) (fun r h_2 hq => ?_)
    have hb := qRd_b hq
    have hq := qRd_tr E1 hq
    rcases hb with rfl | rfl
    · refine g_ireturn (ty := .boolean) rfl rfl (by decide) ?_
      exact hq
    · refine g_ireturn (ty := .boolean) rfl rfl (by decide) ?_
      exact hq
  | 4, _, wl, r1, t1, p1, G1, E1, h6 =>
    refine go_jmp (pc1 := 82) (st1 := []) hF rfl rfl ?_
    refine g_aload_n (i := 0) rfl rfl ?_
    refine g_iconst (n := 2) rfl ?_
    refine g_iconst (n := 0) rfl ?_
    refine g_aload_n (i := 0) rfl rfl ?_
    refine g_getfield (v := .ref 27) rfl r1 (by decide) rfl ?_
    refine g_virt0 (Qc := fun r h' => h' = _ ∧ r = some (.int (c.1 0 * c.1 1))) rfl (by decide) rfl G1.1 rfl (Nat.le_of_ble_eq_true rfl) (sDo_up (d := 1) (by omega) (s_squares (d := 0) G1)) (fun r h9 hq => ?_)
    obtain ⟨rfl, rfl⟩ := hq
    refine g_iconst (n := 1) rfl ?_
    refine g_isub rfl ?_
    have hpl := s_readPlace (d := 0) (wh := Int32.ofInt 2) (lo := Int32.ofInt 0) (hi := c.1 0 * c.1 1 - Int32.ofInt 1) (K := 2) r1 t1 p1 hn G1 h1 h2 h3 (by omega) (by decide) rfl
    rw [show (Int32.ofInt 0).toInt = 0 from rfl, sq.2] at hpl
    refine g_virt3 rfl (by decide) rfl r1 rfl (Nat.le_of_ble_eq_true rfl) (sDo_up (d := 5) (by omega) (hpl)) (fun r h_2 hq => ?_)
    have hb := qRd_b hq
    have hq := qRd_tr E1 hq
    rcases hb with rfl | rfl
    · refine g_ireturn (ty := .boolean) rfl rfl (by decide) ?_
      exact hq
    · refine g_ireturn (ty := .boolean) rfl rfl (by decide) ?_
      exact hq
  | 5, _, wl, r1, t1, p1, G1, E1, h6 =>
    refine go_jmp (pc1 := 98) (st1 := []) hF rfl rfl ?_
    refine g_aload_n (i := 0) rfl rfl ?_
    refine g_iconst (n := 3) rfl ?_
    refine g_iconst (n := 0) rfl ?_
    refine g_bipush (n := 20) rfl ?_
    have hpl := s_readPlace (d := 0) (wh := Int32.ofInt 3) (lo := Int32.ofInt 0) (hi := (Int8.ofInt 20).toInt32) (K := 3) r1 t1 p1 hn G1 h1 h2 h3 (by omega) (by decide) rfl
    rw [show (Int32.ofInt 0).toInt = 0 from rfl, show ((Int8.ofInt 20).toInt32).toInt = 20 from rfl] at hpl
    refine g_virt3 rfl (by decide) rfl r1 rfl (Nat.le_of_ble_eq_true rfl) (sDo_up (d := 5) (by omega) (hpl)) (fun r h_2 hq => ?_)
    have hb := qRd_b hq
    have hq := qRd_tr E1 hq
    rcases hb with rfl | rfl
    · refine g_ireturn (ty := .boolean) rfl rfl (by decide) ?_
      exact hq
    · refine g_ireturn (ty := .boolean) rfl rfl (by decide) ?_
      exact hq
  | 6, _, wl, r1, t1, p1, G1, E1, h6 =>
    refine go_jmp (pc1 := 107) (st1 := []) hF rfl rfl ?_
    refine g_aload_n (i := 0) rfl rfl ?_
    refine g_virt0 rfl (by decide) rfl r1 rfl (Nat.le_of_ble_eq_true rfl) (sDo_up (d := 5) (by omega) (s_readHeir (d := 0) r1 t1 p1 hn G1 h1 h2 h3 (by omega) hs.2.2.1 (h6 rfl))) (fun r h_2 hq => ?_)
    have hb := qRd_b hq
    have hq := qRd_tr E1 hq
    rcases hb with rfl | rfl
    · refine g_ireturn (ty := .boolean) rfl rfl (by decide) ?_
      exact hq
    · refine g_ireturn (ty := .boolean) rfl rfl (by decide) ?_
      exact hq
  | k + 7, v7, _, _, _, _, _, _, _ => exact absurd v7 (by omega)
theorem sg_wrt {T : Nat → Int32} {E : Nat} : ∀ {f v p : Nat} {as : List Act} {p2 : Nat} {c : CF} {s : Sg}, wrtS T E f v p = some (as, p2) → sgI c s → sgI (as.foldl cfDo c) (as.foldl sgDo s) ∧ p ≤ p2 ∧ p2 ≤ p + 3 * f := by
  intro f
  induction f with
  | zero =>
    intro v p as p2 c s h q
    cases h
    exact ⟨q, Nat.le_refl _, Nat.le_refl _⟩
  | succ f ih =>
    intro v p as p2 c s h q
    unfold wrtS at h
    cases h1 : nxtS T p 0 99 with
    | none => rw [h1] at h; cases h
    | some vp =>
      obtain ⟨x, p'⟩ := vp
      have b := nxtS_le h1
      rw [h1] at h
      dsimp only at h
      cases h2 : wrtS T E f (v + 1) p' with
      | none => rw [h2] at h; cases h
      | some q2 =>
        obtain ⟨bs, p3⟩ := q2
        rw [h2] at h
        cases h
        have k := ih (c := cfDo c (4, E, v, x)) (s := sgDo s (4, E, v, x)) h2 q
        exact ⟨k.1, by omega, by omega⟩
theorem sg_itm {T : Nat → Int32} {p p2 : Nat} {as : List Act} {c : CF} {s : Sg} (h : itmS T p s = some (as, p2)) (q : sgI c s) : sgI (as.foldl cfDo c) (as.foldl sgDo s) ∧ p + 1 ≤ p2 ∧ p2 ≤ p + 40 := by
  have q' := q
  obtain ⟨q1, q2, q3, q4, q5, q6, q7, q8⟩ := q'
  have plc : ∀ {p1 k : Nat} {lo hi : Int}, k ≤ 3 → plcS T p1 k lo hi = some (as, p2) → sgI (as.foldl cfDo c) (as.foldl sgDo s) ∧ p1 + 1 ≤ p2 ∧ p2 ≤ p1 + 3 := by
    intro p1 k lo hi hk h
    unfold plcS at h
    cases h1 : nxtS T p1 lo hi with
    | none => rw [h1] at h; cases h
    | some vp =>
      obtain ⟨x, p'⟩ := vp
      have b := nxtS_le h1
      rw [h1] at h
      cases h
      exact ⟨⟨(u_ne (show (0 : Nat) ≠ 7 + k by omega)).trans q1, (u_ne (show (1 : Nat) ≠ 7 + k by omega)).trans q2, (u_ne (show (11 : Nat) ≠ 7 + k by omega)).trans q3, q4, q5, q6, q7, q8⟩, by omega, by omega⟩
  unfold itmS at h
  cases hw : wdS T p (if s.2.2 < 5 then 7 else 6) 0 with
  | none => rw [hw] at h; cases h
  | some v =>
    rw [hw] at h
    have vl := wdS_lt hw
    have wl := wlS_le v
    have v7 : v < 7 := by
      by_cases c5 : s.2.2 < 5
      · rw [if_pos c5] at vl; omega
      · rw [if_neg c5] at vl; omega
    have h6 : v = 6 → s.2.2 < 5 := fun z => by
      by_cases c5 : s.2.2 < 5
      · exact c5
      · rw [if_neg c5] at vl; omega
    match v, v7, wl, h6, h with
    | 0, _, wl, _, h =>
      have h : sizS T (p + wlS 0) = some (as, p2) := h
      unfold sizS at h
      cases h1 : nxtS T (p + wlS 0) 2 8 with
      | none => rw [h1] at h; cases h
      | some vp =>
        obtain ⟨x, p'⟩ := vp
        have b := nxtS_le h1
        rw [h1] at h
        dsimp only at h
        cases h2 : nxtS T p' 2 8 with
        | none => rw [h2] at h; cases h
        | some vp2 =>
          obtain ⟨y, p3⟩ := vp2
          have b2 := nxtS_le h2
          rw [h2] at h
          cases h
          exact ⟨⟨rfl, rfl, q3, show 2 ≤ x by omega, show x ≤ 8 by omega, show 2 ≤ y by omega, show y ≤ 8 by omega, q8⟩, by omega, by omega⟩
    | 1, _, wl, _, h =>
      have h : soiS T (p + wlS 1) (((s.1 * s.2.1 : Nat) : Int) - 1) = some (as, p2) := h
      unfold soiS at h
      cases h1 : nxtS T (p + wlS 1) 0 5 with
      | none => rw [h1] at h; cases h
      | some vp =>
        obtain ⟨x, p'⟩ := vp
        have b := nxtS_le h1
        rw [h1] at h
        dsimp only at h
        cases h2 : nxtS T p' 0 (((s.1 * s.2.1 : Nat) : Int) - 1) with
        | none => rw [h2] at h; cases h
        | some vp2 =>
          obtain ⟨y, p3⟩ := vp2
          have b2 := nxtS_le h2
          rw [h2] at h
          dsimp only at h
          cases h3 : nxtS T p3 y (((s.1 * s.2.1 : Nat) : Int) - 1) with
          | none => rw [h3] at h; cases h
          | some vp3 =>
            obtain ⟨z, p4⟩ := vp3
            have b3 := nxtS_le h3
            rw [h3] at h
            cases h
            exact ⟨q, by omega, by omega⟩
    | 2, _, wl, _, h => have k := plc (by decide) h; exact ⟨k.1, by omega, by omega⟩
    | 3, _, wl, _, h => have k := plc (by decide) h; exact ⟨k.1, by omega, by omega⟩
    | 4, _, wl, _, h => have k := plc (by decide) h; exact ⟨k.1, by omega, by omega⟩
    | 5, _, wl, _, h => have k := plc (by decide) h; exact ⟨k.1, by omega, by omega⟩
    | 6, _, wl, h6, h =>
      have h5 := h6 rfl
      have h : heiS T (p + wlS 6) s.2.2 = some (as, p2) := h
      unfold heiS at h
      cases h1 : nxtS T (p + wlS 6) 1 9 with
      | none => rw [h1] at h; cases h
      | some vp =>
        obtain ⟨x, p'⟩ := vp
        have b := nxtS_le h1
        rw [h1] at h
        dsimp only at h
        cases h2 : wrtS T s.2.2 6 0 p' with
        | none => rw [h2] at h; cases h
        | some vp2 =>
          obtain ⟨bs, p3⟩ := vp2
          rw [h2] at h
          cases h
          have hcl : (c.1 11).toNatClampNeg = s.2.2 := by rw [q3]; exact i_nat (ofN_toInt (by omega))
          have k := sg_wrt (c := cfDo c (3, x, 0, 0)) (s := sgDo s (3, x, 0, 0)) h2 ⟨q1, q2, show Int32.ofNat ((c.1 11).toNatClampNeg + 1) = Int32.ofNat (s.2.2 + 1) by rw [hcl], q4, q5, q6, q7, show s.2.2 + 1 ≤ 5 by omega⟩
          exact ⟨k.1, by omega, by omega⟩
    | k + 7, v7, _, _, _ => exact absurd v7 (by omega)
def itsS (T : Nat → Int32) (n : Nat) : Nat → Sg → Nat → Option (Nat × List Act)
  | 0, _, _ => none
  | f + 1, s, p => match itmS T p s with
    | none => none
    | some (as, p1) => if n ≤ p1 then some (1, as) else if T p1 = 59 then (match itsS T n f (as.foldl sgDo s) (p1 + 1) with
      | some (k, bs) => some (k + 1, as ++ bs)
      | none => none) else none
def qIt (rp tp : Nat) (flt : Int32) (h : sHp) (c : CF) (K : Nat) (q : Option (Nat × List Act)) (r : Option Value) (h' : sHp) : Prop := match q with
  | some (k, as) => r = some (.int (Int32.ofNat (K + k))) ∧ (∃ A' : Nat, h'[rp]? = some (rd tp flt A')) ∧ FC h' 27 (as.foldl cfDo c) ∧ gE rp h h'
  | none => (∃ x : Int32, r = some (.int x)) ∧ ∃ F A' : Nat, F < 999 ∧ h'[rp]? = some (rd tp (Int32.ofNat F) A') ∧ gE rp h h'
theorem s_readItems_go {d : Nat} {h0 : sHp} {rp tp ep n : Nat} {ot flt : Int32} {el : Nat → Int64} (hn : n ≤ 100) (h1 : 79 ≤ rp) (h2 : 44 ≤ tp ∧ tp < 60) (h3 : 44 ≤ ep ∧ ep < 60) (hd : 7 ≤ d) : ∀ (f A K : Nat) (h : sHp) (c : CF) (s : Sg), n < A + f → A ≤ n → K ≤ A → sgI c s → h[rp]? = some (rd tp flt A) → h[tp]? = some (.inr (7, [.int ot, .int (Int32.ofNat n), .ref ep])) → h[ep]? = some (.inl (1, 100, .inr (.inl el))) → FC h 27 c → gE rp h0 h → sGo none 65 d 2 [some (.ref rp), some (.int (Int32.ofNat K))] [] h (qIt rp tp flt h0 c K (itsS (tx el n) n f s A)) := by
  have e100 : (Int8.ofInt 100).toInt32.toInt = 100 := rfl
  have en := ofN_toInt (n := n) (by omega)
  intro f
  induction f with
  | zero => intro A K h c s hl hA; omega
  | succ f ih =>
    intro A K h c s hl hA hK hs hr ht he F G
    have eK := ofN_toInt (n := K) (by omega)
    have hit := s_readItem (d := 0) hr ht he hn F h1 h2 h3 (by omega) hs
    unfold itsS
    refine g_iload_n (i := 1) rfl rfl ?_
    refine g_bipush (n := 100) rfl ?_
    refine g_icmp_gt 43 rfl rfl (fun hc => absurd hc (by rw [i_lt, e100, eK]; omega)) (fun _ => ?_)
    refine g_aload_n (i := 0) rfl rfl ?_
    refine g_virt0 rfl (by decide) rfl hr rfl (Nat.le_of_ble_eq_true rfl) (sDo_up (d := 7) (by omega) hit) (fun r h_1 hq => ?_)
    cases hi : itmS (tx el n) A s with
    | none =>
      rw [hi] at hq
      obtain ⟨rfl, F1, A1, hF1, hr1, G1⟩ := hq
      refine g_if_eq 43 rfl rfl (fun _ => ?_) (fun hc => absurd hc (by decide))
      refine g_iload_n (i := 1) rfl rfl ?_
      refine g_ireturn (ty := .int) rfl rfl rfl ?_
      exact ⟨⟨_, rfl⟩, F1, A1, hF1, hr1, gE_tr G G1⟩
    | some q =>
      obtain ⟨as, A1⟩ := q
      rw [hi] at hq
      obtain ⟨rfl, r1, F1, G1⟩ := hq
      have sg := sg_itm hi hs
      have eA1 := ofN_toInt (n := A1) (by omega)
      have t1 := (G1.2 tp (by omega) (by omega)).trans ht
      have p1 := (G1.2 ep (by omega) (by omega)).trans he
      dsimp only
      refine g_if_eq 43 rfl rfl (fun hc => absurd hc (by decide)) (fun _ => ?_)
      refine g_iinc (i := 1) (L1 := [some (.ref rp), some (.int ((Int32.ofNat K) + Int32.ofInt 1))]) rfl rfl rfl ?_
      rw [ofN_add (by omega)]
      refine g_aload_n (i := 0) rfl rfl ?_
      refine g_getfield (v := .int (Int32.ofNat A1)) rfl r1 (by decide) rfl ?_
      refine g_aload_n (i := 0) rfl rfl ?_
      refine g_getfield (v := .ref tp) rfl r1 (by decide) rfl ?_
      refine g_getfield (v := .int (Int32.ofNat n)) rfl t1 (by decide) rfl ?_
      refine g_icmp_ge 41 rfl rfl (fun c1 => ?_) (fun c1 => ?_)
      · skip
        rw [i_le, en, eA1] at c1
        rw [if_pos (show n ≤ A1 by omega)]
        refine g_iload_n (i := 1) rfl rfl ?_
        refine g_ireturn (ty := .int) rfl rfl rfl ?_
        exact ⟨rfl, ⟨A1, r1⟩, F1, gE_tr G G1⟩
      · skip
        rw [i_le, en, eA1] at c1
        rw [if_neg (show ¬ n ≤ A1 by omega)]
        refine g_aload_n (i := 0) rfl rfl ?_
        refine g_bipush (n := 59) rfl ?_
        by_cases hb : tx el n A1 = (Int8.ofInt 59).toInt32
        · skip
          refine g_virt1 (Qc := fun r h' => r = some (.int 1) ∧ h' = h_1.set rp (rd tp flt (A1 + 1))) rfl (by decide) rfl r1 rfl (Nat.le_of_ble_eq_true rfl) (sDo_up (d := 3) (by omega) (s_passesY (d := 0) r1 t1 p1 hn (by omega) hb)) (fun r h9 hq9 => ?_)
          obtain ⟨rfl, rfl⟩ := hq9
          rw [if_pos (show tx el n A1 = 59 from hb)]
          refine g_if_ne 2 rfl rfl (fun _ => ?_) (fun hc => absurd hc (by decide))
          have key := ih (A1 + 1) (K + 1) (h_1.set rp (rd tp flt (A1 + 1))) _ _ (by omega) (by omega) (by omega) sg.1 (s_set_eq r1) (by rw [s_set_ne (by omega)]; exact t1) (by rw [s_set_ne (by omega)]; exact p1) (FC_out F1 (by omega)) (gE_rp (gE_tr G G1))
          cases hz : itsS (tx el n) n f (List.foldl sgDo s as) (A1 + 1) with
          | none => rw [hz] at key; exact key
          | some kb =>
            obtain ⟨k, bs⟩ := kb
            rw [hz] at key
            unfold qIt at key ⊢
            dsimp only at key ⊢
            rw [List.foldl_append, show K + (k + 1) = K + 1 + k by omega]
            exact key
        · skip
          refine g_virt1 (Qc := fun r h' => r = some (.int 0) ∧ h' = h_1.set rp (rd tp (Int32.ofNat A1) A1)) rfl (by decide) rfl r1 rfl (Nat.le_of_ble_eq_true rfl) (sDo_up (d := 3) (by omega) (s_passesN (d := 0) r1 t1 p1 hn (by omega) hb)) (fun r h9 hq9 => ?_)
          obtain ⟨rfl, rfl⟩ := hq9
          rw [if_neg (show ¬ tx el n A1 = 59 from hb)]
          refine g_if_ne 2 rfl rfl (fun hc => absurd hc (by decide)) (fun _ => ?_)
          refine g_iload_n (i := 1) rfl rfl ?_
          refine g_ireturn (ty := .int) rfl rfl rfl ?_
          exact ⟨⟨_, rfl⟩, A1, A1, by omega, s_set_eq r1, gE_rp (gE_tr G G1)⟩
