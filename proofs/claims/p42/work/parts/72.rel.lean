/-! ===== pairs: set, element, holds ===== -/
theorem pair_case {k1 k2 : Nat} {as : List Value} {h : sHp} {x : Value} {P : sHp → Prop} (hH : bH h) (c1 : ∀ h, bH h → sDo 10 k1 (.ref 0 :: as) h (fun _ h' => bH h' ∧ h'.length ≤ h.length + 1)) (c2 : ∀ h, bH h → sDo 10 k2 (.ref 60 :: as) h (fun _ h' => bH h' ∧ h'.length ≤ h.length + 1)) (e1 : sDo 10 k1 (.ref 0 :: as) h (fun r h' => r = some x ∧ P h')) (e2 : ∀ h1, bH h1 → P h1 → sDo 10 k2 (.ref 60 :: as) h1 (fun r h' => r = some x ∧ bR5 h')) : sDo 10 k1 (.ref 0 :: as) h (fun r1 h1 => bH h1 ∧ h1.length ≤ h.length + 1 ∧ sDo 10 k2 (.ref 60 :: as) h1 (fun r2 h2 => bH h2 ∧ h2.length ≤ h1.length + 1 ∧ bR5 h2 ∧ ∃ x, r1 = some x ∧ r2 = some x)) := by
  refine sDo_mono (sDo_and (c1 h hH) e1) (fun r1 h1 q => ?_)
  obtain ⟨⟨q1, q2⟩, rfl, q3⟩ := q
  exact ⟨q1, q2, sDo_mono (sDo_and (c2 h1 q1) (e2 h1 q1 q3)) (fun r2 h2 z => ⟨z.1.1, z.1.2, z.2.2, x, rfl, z.2.1⟩)⟩
/-- refused: the class -/
def pRef (h h' : sHp) : Prop := ∃ R, h' = h.set 43 (.inl (0, 8, .inl R))
theorem pRef_4 {hd so sz co : Nat → Int32} {cl : Nat → Int64} {f g : Nat → Option Nat} {h h' : sHp} (q : pRef h h') (a : bR4 h hd so sz co cl f g) : bR4 h' hd so sz co cl f g := by
  obtain ⟨R, rfl⟩ := q
  exact bR4_set a (by decide) (by decide) (by decide)
theorem pRef_5 {h h' : sHp} (q : pRef h h') (a : bR5 h) : bR5 h' := by
  obtain ⟨R, rfl⟩ := q
  exact bR5_set a (by decide) (by decide) (by decide) (by decide) (by decide)
theorem s_noOut {d : Nat} {h : sHp} {s : Int32} (hs : ¬ (0 ≤ s.toInt ∧ s.toInt < 8)) : sDo (d + 2) 161 [.ref 0, .int s] h (fun r h' => h' = h ∧ r = some (.int (-1))) := by
  refine sDo_of (d := d + 1) (nL := 2) (L := [some (.ref 0), some (.int s)]) rfl rfl ?_
  refine g_iload_n (i := 1) rfl rfl ?_
  refine g_static1 (Qc := fun r h' => h' = h ∧ r = some (.int 0)) rfl (by decide) rfl (Nat.le_of_ble_eq_true rfl) (s_sh11 (by rw [if_neg hs])) (fun r h9 hq9 => ?_)
  obtain ⟨rfl, rfl⟩ := hq9
  refine g_if_ne 9 rfl rfl (fun hc => absurd hc (by decide)) (fun _ => ?_)
  refine g_iconst (n := (-1)) rfl ?_
  refine g_ireturn (ty := .int) rfl rfl rfl ?_
  exact ⟨rfl, rfl⟩
/-- what noRow says of a shelf -/
def nrOf (hd : Nat → Int32) (S : Nat) : Int32 := if hd S = 1 then 0 else if hd S = 2 then -2 else -3
theorem s_noIn {d : Nat} {h : sHp} {hd so sz co : Nat → Int32} {cl : Nat → Int64} {f g : Nat → Option Nat} {s : Int32} {S : Nat} {ot z : Int32} {el : Nat → Int64} (hH : bH h) (q4 : bR4 h hd so sz co cl f g) (hs : s.toInt = S) (hS : S < 8) (b1 : h[44 + 2 * S]? = some (.inr (7, [.int ot, .int z, .ref (45 + 2 * S)]))) (b3 : bSh hd so sz co cl g h S ot z el) : sDo (d + 2) 161 [.ref 0, .int s] h (fun r h' => h' = h ∧ r = some (.int (nrOf hd S))) := by
  refine s_noRow (el := el) hH q4 hs hS b1 ?_
  unfold nrOf
  rcases b3 with ⟨x1, x2, x3⟩ | ⟨x1, x2, x3, x4, -⟩ | ⟨x1, x2, pc, x3, x4, -⟩
  · exact Or.inr (Or.inl ⟨x2, x3, by rw [x1]; rfl⟩)
  · refine Or.inl ⟨x2, fun z => ?_, by rw [x1]; rfl⟩
    rw [z] at x4
    exact absurd x4 (by decide)
  · exact Or.inr (Or.inr ⟨pc, x4, by rw [x1]; rfl⟩)
/-- has -/
theorem s_has7 {d : Nat} {h : sHp} {p ep : Nat} {ot z i : Int32} {b : Int32} (hp : h[p]? = some (.inr (7, [.int ot, .int z, .ref ep]))) (hb : b = if 0 ≤ i.toInt ∧ i.toInt < z.toInt then 1 else 0) : sDo (d + 1) 82 [.ref p, .int i] h (fun r h' => h' = h ∧ r = some (.int b)) := by
  have e0 : (0 : Int32).toInt = 0 := rfl
  refine sDo_of (d := d) (nL := 2) (L := [some (.ref p), some (.int i)]) rfl rfl ?_
  refine g_iload_n (i := 1) rfl rfl ?_
  refine g_if_lt 16 rfl rfl (fun c1 => ?_) (fun c1 => ?_)
  · skip
    rw [i_lt, e0] at c1
    refine g_iconst (n := 0) rfl ?_
    refine g_ireturn (ty := .boolean) rfl rfl (by decide) ?_
    rw [hb, if_neg (by omega)]; exact ⟨rfl, rfl⟩
  · skip
    rw [i_lt, e0] at c1
    refine g_iload_n (i := 1) rfl rfl ?_
    refine g_aload_n (i := 0) rfl rfl ?_
    refine g_getfield (v := .int z) rfl hp (by decide) rfl ?_
    refine g_icmp_ge 16 rfl rfl (fun c2 => ?_) (fun c2 => ?_)
    · skip
      rw [i_le] at c2
      refine g_iconst (n := 0) rfl ?_
      refine g_ireturn (ty := .boolean) rfl rfl (by decide) ?_
      rw [hb, if_neg (by omega)]; exact ⟨rfl, rfl⟩
    · skip
      rw [i_le] at c2
      refine g_iconst (n := 1) rfl ?_
      refine g_goto 17 rfl rfl ?_
      refine g_ireturn (ty := .boolean) rfl rfl (by decide) ?_
      rw [hb, if_pos (by omega)]; exact ⟨rfl, rfl⟩
def nrw (ot : Int32) (v : Int64) : Int64 := if ot = 0 then v.toInt32.toInt8.toInt32.toInt64 else if ot = 1 then v.toInt32.toInt16.toInt32.toInt64 else if ot = 2 then v.toInt32.toInt64 else v
theorem s_narrow {d : Nat} {h : sHp} {p ep : Nat} {ot z : Int32} {v : Int64} (hp : h[p]? = some (.inr (7, [.int ot, .int z, .ref ep]))) : sDo (d + 1) 88 [.ref p, .long v] h (fun r h' => h' = h ∧ r = some (.long (nrw ot v))) := by
  refine sDo_of (d := d) (nL := 3) (L := [some (.ref p), some (.long v), none]) rfl rfl ?_
  refine g_aload_n (i := 0) rfl rfl ?_
  refine g_getfield (v := .int ot) rfl hp (by decide) rfl ?_
  have hF : sFk 88 4 = some (.tableswitch 42 0 2 #[28, 33, 38]) := rfl
  have i0 : (0 : Int32).toInt = 0 := rfl
  have i1 : (1 : Int32).toInt = 1 := rfl
  have i2 : (2 : Int32).toInt = 2 := rfl
  by_cases h0 : ot.toInt = 0
  · refine go_jmp (pc1 := 32) (st1 := []) hF rfl ?_ ?_
    · show (if ot.toInt < 0 ∨ 2 < ot.toInt then _ else (match #[(28 : Int), 33, 38][(ot.toInt - 0).toNat]? with
        | some off => (sTgt 4 off).map (fun t => (t, ([] : List Value)))
        | none => none)) = _
      rw [if_neg (by omega), show (ot.toInt - 0).toNat = 0 by omega]; rfl
    · skip
      refine g_lload_n (i := 1) rfl rfl ?_
      refine g_l2i rfl ?_
      refine g_i2b rfl ?_
      refine g_i2l rfl ?_
      refine g_lreturn rfl rfl ?_
      refine ⟨rfl, ?_⟩
      unfold nrw
      rw [if_pos (Int32.toInt_inj.mp (h0.trans i0.symm))]
  · have n0 : ¬ ot = 0 := fun z => h0 (by rw [z]; rfl)
    by_cases h1 : ot.toInt = 1
    · refine go_jmp (pc1 := 37) (st1 := []) hF rfl ?_ ?_
      · show (if ot.toInt < 0 ∨ 2 < ot.toInt then _ else (match #[(28 : Int), 33, 38][(ot.toInt - 0).toNat]? with
          | some off => (sTgt 4 off).map (fun t => (t, ([] : List Value)))
          | none => none)) = _
        rw [if_neg (by omega), show (ot.toInt - 0).toNat = 1 by omega]; rfl
      · skip
        refine g_lload_n (i := 1) rfl rfl ?_
        refine g_l2i rfl ?_
        refine g_i2s rfl ?_
        refine g_i2l rfl ?_
        refine g_lreturn rfl rfl ?_
        refine ⟨rfl, ?_⟩
        unfold nrw
        rw [if_neg n0, if_pos (Int32.toInt_inj.mp (h1.trans i1.symm))]
    · have n1 : ¬ ot = 1 := fun z => h1 (by rw [z]; rfl)
      by_cases h2 : ot.toInt = 2
      · refine go_jmp (pc1 := 42) (st1 := []) hF rfl ?_ ?_
        · show (if ot.toInt < 0 ∨ 2 < ot.toInt then _ else (match #[(28 : Int), 33, 38][(ot.toInt - 0).toNat]? with
            | some off => (sTgt 4 off).map (fun t => (t, ([] : List Value)))
            | none => none)) = _
          rw [if_neg (by omega), show (ot.toInt - 0).toNat = 2 by omega]; rfl
        · skip
          refine g_lload_n (i := 1) rfl rfl ?_
          refine g_l2i rfl ?_
          refine g_i2l rfl ?_
          refine g_lreturn rfl rfl ?_
          refine ⟨rfl, ?_⟩
          unfold nrw
          rw [if_neg n0, if_neg n1, if_pos (Int32.toInt_inj.mp (h2.trans i2.symm))]
      · have n2 : ¬ ot = 2 := fun z => h2 (by rw [z]; rfl)
        refine go_jmp (pc1 := 46) (st1 := []) hF rfl ?_ ?_
        · show (if ot.toInt < 0 ∨ 2 < ot.toInt then (sTgt 4 42).map (fun t => (t, ([] : List Value))) else _) = _
          rw [if_pos (by omega)]; rfl
        · skip
          refine g_lload_n (i := 1) rfl rfl ?_
          refine g_lreturn rfl rfl ?_
          refine ⟨rfl, ?_⟩
          unfold nrw
          rw [if_neg n0, if_neg n1, if_neg n2]
theorem s_putE {d : Nat} {h : sHp} {p ep : Nat} {ot z i : Int32} {el : Nat → Int64} {v : Int64} (hp : h[p]? = some (.inr (7, [.int ot, .int z, .ref ep]))) (he : h[ep]? = some (.inl (1, 100, .inr (.inl el)))) (z1 : z.toInt ≤ 100) (i0 : 0 ≤ i.toInt) (i1 : i.toInt < z.toInt) : sDo (d + 2) 86 [.ref p, .int i, .long v] h (fun r h' => r = none ∧ h' = h.set ep (.inl (1, 100, .inr (.inl (vp_updL el i.toNatClampNeg (nrw ot v)))))) := by
  refine sDo_of (d := d + 1) (nL := 4) (L := [some (.ref p), some (.int i), some (.long v), none]) rfl rfl ?_
  refine g_aload_n (i := 0) rfl rfl ?_
  refine g_iload_n (i := 1) rfl rfl ?_
  refine g_virt1 (Qc := fun r h' => h' = h ∧ r = some (.int 1)) rfl (by decide) rfl hp rfl (Nat.le_of_ble_eq_true rfl) (s_has7 hp (by rw [if_pos ⟨i0, i1⟩])) (fun r h9 hq9 => ?_)
  obtain ⟨rfl, rfl⟩ := hq9
  refine g_if_eq 19 rfl rfl (fun hc => absurd hc (by decide)) (fun _ => ?_)
  refine g_aload_n (i := 0) rfl rfl ?_
  refine g_getfield (v := .ref ep) rfl hp (by decide) rfl ?_
  refine g_iload_n (i := 1) rfl rfl ?_
  refine g_aload_n (i := 0) rfl rfl ?_
  refine g_lload_n (i := 2) rfl rfl ?_
  refine g_virt1 (Qc := fun r h' => h' = h9 ∧ r = some (.long (nrw ot v))) rfl (by decide) rfl hp rfl (Nat.le_of_ble_eq_true rfl) (s_narrow hp) (fun r h8 hq9 => ?_)
  obtain ⟨rfl, rfl⟩ := hq9
  refine g_lastore rfl he (i_in (by omega) (by omega)) rfl ?_
  refine g_return rfl rfl ?_
  exact ⟨rfl, rfl⟩
theorem s_set11_out {h : sHp} {s i : Int32} {v : Int64} (hH : bH h) (hs : ¬ (0 ≤ s.toInt ∧ s.toInt < 8)) : sDo 10 115 [.ref 0, .int s, .int i, .long v] h (fun r h' => r = some (.int (-1)) ∧ pRef h h') := by
  obtain ⟨fs, hf, -⟩ := bFldK hH (p := 0) (by decide) rfl
  refine sDo_of (d := 9) (nL := 6) (L := [some (.ref 0), some (.int s), some (.int i), some (.long v), none, none]) rfl rfl ?_
  refine g_aload_n (i := 0) rfl rfl ?_
  refine g_iload_n (i := 1) rfl rfl ?_
  refine g_virt1 (Qc := fun r h' => h' = h ∧ r = some (.int (-1))) rfl (by decide) rfl hf rfl (Nat.le_of_ble_eq_true rfl) (sDo_up (d := 2) (by decide) (s_noOut (d := 0) hs)) (fun r h9 hq9 => ?_)
  obtain ⟨rfl, rfl⟩ := hq9
  refine g_istore (i := 5) (L1 := [some (.ref 0), some (.int s), some (.int i), some (.long v), none, some (.int (-1))]) rfl (Nat.le_of_ble_eq_true rfl) rfl ?_
  refine g_iload (i := 5) rfl rfl ?_
  refine g_if_eq 19 rfl rfl (fun hc => absurd hc (by decide)) (fun _ => ?_)
  refine g_aload_n (i := 0) rfl rfl ?_
  refine g_iload (i := 5) rfl rfl ?_
  refine g_virt1 (Qc := fun r h' => r = some (.int (-1)) ∧ ∃ R, h' = h9.set 43 (.inl (0, 8, .inl R))) rfl (by decide) rfl hf rfl (Nat.le_of_ble_eq_true rfl) (sDo_up (d := 2) (by decide) (s_rfus (d := 0) hH (by decide) (by decide))) (fun r h8 hq9 => ?_)
  obtain ⟨rfl, hR⟩ := hq9
  refine g_ireturn (ty := .int) rfl rfl rfl ?_
  exact ⟨rfl, hR⟩
theorem s_set11_no {h : sHp} {hd so sz co : Nat → Int32} {cl : Nat → Int64} {f g : Nat → Option Nat} {s i : Int32} {S : Nat} {ot z : Int32} {el : Nat → Int64} {v : Int64} (hH : bH h) (q4 : bR4 h hd so sz co cl f g) (hs : s.toInt = S) (hS : S < 8) (b1 : h[44 + 2 * S]? = some (.inr (7, [.int ot, .int z, .ref (45 + 2 * S)]))) (b2 : h[45 + 2 * S]? = some (.inl (1, 100, .inr (.inl el)))) (b3 : bSh hd so sz co cl g h S ot z el) (hne : ¬ hd S = 1) : sDo 10 115 [.ref 0, .int s, .int i, .long v] h (fun r h' => r = some (.int (nrOf hd S)) ∧ pRef h h') := by
  obtain ⟨fs, hf, -⟩ := bFldK hH (p := 0) (by decide) rfl
  have hn : nrOf hd S = -2 ∨ nrOf hd S = -3 := by
    unfold nrOf
    rw [if_neg hne]
    split
    · exact Or.inl rfl
    · exact Or.inr rfl
  have k1 : -7 ≤ (nrOf hd S).toInt ∧ (nrOf hd S).toInt ≤ -1 ∧ ¬ nrOf hd S = 0 := by rcases hn with z | z <;> rw [z] <;> decide
  refine sDo_of (d := 9) (nL := 6) (L := [some (.ref 0), some (.int s), some (.int i), some (.long v), none, none]) rfl rfl ?_
  refine g_aload_n (i := 0) rfl rfl ?_
  refine g_iload_n (i := 1) rfl rfl ?_
  refine g_virt1 (Qc := fun r h' => h' = h ∧ r = some (.int (nrOf hd S))) rfl (by decide) rfl hf rfl (Nat.le_of_ble_eq_true rfl) (sDo_up (d := 2) (by decide) (s_noIn (d := 0) hH q4 hs hS b1 b3)) (fun r h9 hq9 => ?_)
  obtain ⟨rfl, rfl⟩ := hq9
  refine g_istore (i := 5) (L1 := [some (.ref 0), some (.int s), some (.int i), some (.long v), none, some (.int (nrOf hd S))]) rfl (Nat.le_of_ble_eq_true rfl) rfl ?_
  refine g_iload (i := 5) rfl rfl ?_
  refine g_if_eq 19 rfl rfl (fun hc => absurd hc (by exact k1.2.2)) (fun _ => ?_)
  refine g_aload_n (i := 0) rfl rfl ?_
  refine g_iload (i := 5) rfl rfl ?_
  refine g_virt1 (Qc := fun r h' => r = some (.int (nrOf hd S)) ∧ ∃ R, h' = h9.set 43 (.inl (0, 8, .inl R))) rfl (by decide) rfl hf rfl (Nat.le_of_ble_eq_true rfl) (sDo_up (d := 2) (by decide) (s_rfus (d := 0) hH k1.1 k1.2.1)) (fun r h8 hq9 => ?_)
  obtain ⟨rfl, hR⟩ := hq9
  refine g_ireturn (ty := .int) rfl rfl rfl ?_
  exact ⟨rfl, hR⟩
theorem s_set11_in {h : sHp} {hd so sz co : Nat → Int32} {cl : Nat → Int64} {f g : Nat → Option Nat} {s i : Int32} {S : Nat} {ot z : Int32} {el : Nat → Int64} {v : Int64} (hH : bH h) (q4 : bR4 h hd so sz co cl f g) (hs : s.toInt = S) (hS : S < 8) (b1 : h[44 + 2 * S]? = some (.inr (7, [.int ot, .int z, .ref (45 + 2 * S)]))) (b2 : h[45 + 2 * S]? = some (.inl (1, 100, .inr (.inl el)))) (b3 : bSh hd so sz co cl g h S ot z el) (h1 : hd S = 1) {x : Int32} {P : sHp → Prop} (hx : (¬ (0 ≤ i.toInt ∧ i.toInt < z.toInt) ∧ x = -5 ∧ P = pRef h) ∨ (0 ≤ i.toInt ∧ i.toInt < z.toInt ∧ x = 1 ∧ P = fun h' => h' = h.set (45 + 2 * S) (.inl (1, 100, .inr (.inl (vp_updL el i.toNatClampNeg (nrw ot v))))))) : sDo 10 115 [.ref 0, .int s, .int i, .long v] h (fun r h' => r = some (.int x) ∧ P h') := by
  have q4c := q4
  have hz : z.toInt ≤ 100 := by
    rcases b3 with ⟨y1, -⟩ | ⟨-, -, -, -, -, -, -, y8, -⟩ | ⟨y1, -⟩
    · rw [h1] at y1
      exact absurd y1 (by decide)
    · exact y8
    · rw [h1] at y1
      exact absurd y1 (by decide)
  have hn : nrOf hd S = 0 := by
    unfold nrOf
    rw [if_pos h1]
  obtain ⟨a1, a2, a3, a4, a5, a6, a7, a8⟩ := q4
  obtain ⟨fs, hf, -, hfs⟩ := bFldK hH (p := 0) (by decide) rfl
  obtain ⟨v0, f0, r0⟩ := hfs 0 _ rfl
  cases bT_one (by decide) (by decide +kernel) r0
  obtain ⟨v1, f1, r1⟩ := hfs 1 _ rfl
  cases bT_one (by decide) (by decide +kernel) r1
  have sn : s.toNatClampNeg = S := i_nat hs
  have fS : va_rf (f s.toNatClampNeg) = .ref (44 + 2 * S) := by rw [sn, a2 S hS]; rfl
  refine sDo_of (d := 9) (nL := 6) (L := [some (.ref 0), some (.int s), some (.int i), some (.long v), none, none]) rfl rfl ?_
  refine g_aload_n (i := 0) rfl rfl ?_
  refine g_iload_n (i := 1) rfl rfl ?_
  refine g_virt1 (Qc := fun r h' => h' = h ∧ r = some (.int 0)) rfl (by decide) rfl hf rfl (Nat.le_of_ble_eq_true rfl) (sDo_mono (sDo_up (d := 2) (by decide) (s_noIn (d := 0) hH q4c hs hS b1 b3)) (fun r h' q => by rw [← hn]; exact q)) (fun r h9 hq9 => ?_)
  obtain ⟨rfl, rfl⟩ := hq9
  refine g_istore (i := 5) (L1 := [some (.ref 0), some (.int s), some (.int i), some (.long v), none, some (.int 0)]) rfl (Nat.le_of_ble_eq_true rfl) rfl ?_
  refine g_iload (i := 5) rfl rfl ?_
  refine g_if_eq 19 rfl rfl (fun _ => ?_) (fun hc => absurd hc (by decide))
  refine g_aload_n (i := 0) rfl rfl ?_
  refine g_getfield (v := .ref 1) rfl hf (by decide) f0 ?_
  refine g_iload_n (i := 1) rfl rfl ?_
  refine g_aaload rfl a1 (by decide) (i_in (by omega) (by omega)) ?_
  rw [fS]
  refine g_iload_n (i := 2) rfl rfl ?_
  rcases hx with ⟨hi, rfl, rfl⟩ | ⟨i0, i1, rfl, rfl⟩
  · skip
    refine g_virt1 (Qc := fun r h' => h' = h9 ∧ r = some (.int 0)) rfl (by decide) rfl b1 rfl (Nat.le_of_ble_eq_true rfl) (s_has7 b1 (by rw [if_neg hi])) (fun r h8 hq9 => ?_)
    obtain ⟨rfl, rfl⟩ := hq9
    refine g_if_ne 39 rfl rfl (fun hc => absurd hc (by decide)) (fun _ => ?_)
    refine g_aload_n (i := 0) rfl rfl ?_
    refine g_bipush (n := (-5)) rfl ?_
    refine g_virt1 (Qc := fun r h' => r = some (.int (-5)) ∧ ∃ R, h' = h8.set 43 (.inl (0, 8, .inl R))) rfl (by decide) rfl hf rfl (Nat.le_of_ble_eq_true rfl) (sDo_up (d := 2) (by decide) (s_rfus (d := 0) hH (by decide) (by decide))) (fun r h7 hq9 => ?_)
    obtain ⟨rfl, hR⟩ := hq9
    refine g_ireturn (ty := .int) rfl rfl rfl ?_
    exact ⟨rfl, hR⟩
  · skip
    refine g_virt1 (Qc := fun r h' => h' = h9 ∧ r = some (.int 1)) rfl (by decide) rfl b1 rfl (Nat.le_of_ble_eq_true rfl) (s_has7 b1 (by rw [if_pos ⟨i0, i1⟩])) (fun r h8 hq9 => ?_)
    obtain ⟨rfl, rfl⟩ := hq9
    refine g_if_ne 39 rfl rfl (fun _ => ?_) (fun hc => absurd hc (by decide))
    refine g_aload_n (i := 0) rfl rfl ?_
    refine g_getfield (v := .ref 1) rfl hf (by decide) f0 ?_
    refine g_iload_n (i := 1) rfl rfl ?_
    refine g_aaload rfl a1 (by decide) (i_in (by omega) (by omega)) ?_
    rw [fS]
    refine g_iload_n (i := 2) rfl rfl ?_
    refine g_lload_n (i := 3) rfl rfl ?_
    refine g_virt2 (Qc := fun r h' => r = none ∧ h' = List.set h8 (45 + 2 * S) (.inl (1, 100, .inr (.inl (vp_updL el i.toNatClampNeg (nrw ot v)))))) rfl (by decide) rfl b1 rfl (Nat.le_of_ble_eq_true rfl) (sDo_up (d := 2) (by decide) (s_putE (d := 0) b1 b2 hz i0 i1)) (fun r h7 hq9 => ?_)
    obtain ⟨rfl, rfl⟩ := hq9
    refine g_iconst (n := 1) rfl ?_
    refine g_ireturn (ty := .int) rfl rfl rfl ?_
    exact ⟨rfl, rfl⟩
theorem s_set12_out {h : sHp} {s i : Int32} {v : Int64} (hH : bH h) (hR : bR5 h) (hs : ¬ (0 ≤ s.toInt ∧ s.toInt < 8)) : sDo 10 179 [.ref 60, .int s, .int i, .long v] h (fun r h' => r = some (.int (-1)) ∧ bR5 h') := by
  obtain ⟨fs, hf, -⟩ := bObj60 hH
  refine sDo_of (d := 9) (nL := 5) (L := [some (.ref 60), some (.int s), some (.int i), some (.long v), none]) rfl rfl ?_
  refine g_aload_n (i := 0) rfl rfl ?_
  refine g_iload_n (i := 1) rfl rfl ?_
  refine g_virt1 (Qc := fun r h' => h' = h ∧ r = some (.int 0)) rfl (by decide) rfl hf rfl (Nat.le_of_ble_eq_true rfl) (s_sh12 (by rw [if_neg hs])) (fun r h9 hq9 => ?_)
  obtain ⟨rfl, rfl⟩ := hq9
  refine g_if_ne 14 rfl rfl (fun hc => absurd hc (by decide)) (fun _ => ?_)
  refine g_aload_n (i := 0) rfl rfl ?_
  refine g_iconst (n := (-1)) rfl ?_
  refine g_virt1 (Qc := fun r h' => r = some (.int (-1)) ∧ ∃ R, h' = List.set h9 61 (.inl (0, 8, .inl R))) rfl (by decide) rfl hf rfl (Nat.le_of_ble_eq_true rfl) (sDo_up (d := 1) (by decide) (s_no (d := 0) hH (by decide) (by decide))) (fun r h8 hq9 => ?_)
  obtain ⟨rfl, R, rfl⟩ := hq9
  refine g_ireturn (ty := .int) rfl rfl rfl ?_
  exact ⟨rfl, no_R hR⟩
theorem s_set12_in {h : sHp} {hd so sz co : Nat → Int32} {cl : Nat → Int64} {f g : Nat → Option Nat} {s i : Int32} {S : Nat} {v : Int64} (hH : bH h) (q4 : bR4 h hd so sz co cl f g) (hs : s.toInt = S) (hS : S < 8) {x : Int32} (hx : (hd S = 2 ∧ x = -2 ∧ bR5 h) ∨ (hd S = 0 ∧ x = -3 ∧ bR5 h) ∨ (hd S = 1 ∧ ¬ (0 ≤ i.toInt ∧ i.toInt < (sz S).toInt) ∧ x = -5 ∧ bR5 h) ∨ (hd S = 1 ∧ 0 ≤ i.toInt ∧ i.toInt < (sz S).toInt ∧ (sz S).toInt ≤ 100 ∧ x = 1 ∧ bR5 (h.set 71 (.inl (1, 800, .inr (.inl (vp_updL cl (100 * S + i.toNatClampNeg) (nrw (so S) v)))))))) : sDo 10 179 [.ref 60, .int s, .int i, .long v] h (fun r h' => r = some (.int x) ∧ bR5 h') := by
  obtain ⟨a1, a2, a3, a4, a5, a6, a7, a8⟩ := q4
  obtain ⟨fs, hf, -⟩ := bObj60 hH
  obtain ⟨w14, f14, r14⟩ := bF60 hH hf (j := 14) (ty := .inr (2, 67)) (by decide +kernel)
  cases bT_one (by decide) (by decide +kernel) r14
  obtain ⟨w15, f15, r15⟩ := bF60 hH hf (j := 15) (ty := .inr (2, 68)) (by decide +kernel)
  cases bT_one (by decide) (by decide +kernel) r15
  obtain ⟨w16, f16, r16⟩ := bF60 hH hf (j := 16) (ty := .inr (2, 69)) (by decide +kernel)
  cases bT_one (by decide) (by decide +kernel) r16
  obtain ⟨w17, f17, r17⟩ := bF60 hH hf (j := 17) (ty := .inr (2, 70)) (by decide +kernel)
  cases bT_one (by decide) (by decide +kernel) r17
  obtain ⟨w18, f18, r18⟩ := bF60 hH hf (j := 18) (ty := .inr (2, 71)) (by decide +kernel)
  cases bT_one (by decide) (by decide +kernel) r18
  have sn : s.toNatClampNeg = S := i_nat hs
  have e0 : (0 : Int32).toInt = 0 := rfl
  have e100 : (Int8.ofInt 100).toInt32.toInt = 100 := rfl
  refine sDo_of (d := 9) (nL := 5) (L := [some (.ref 60), some (.int s), some (.int i), some (.long v), none]) rfl rfl ?_
  refine g_aload_n (i := 0) rfl rfl ?_
  refine g_iload_n (i := 1) rfl rfl ?_
  refine g_virt1 (Qc := fun r h' => h' = h ∧ r = some (.int 1)) rfl (by decide) rfl hf rfl (Nat.le_of_ble_eq_true rfl) (s_sh12 (by rw [if_pos (by omega)])) (fun r h9 hq9 => ?_)
  obtain ⟨rfl, rfl⟩ := hq9
  refine g_if_ne 14 rfl rfl (fun _ => ?_) (fun hc => absurd hc (by decide))
  refine g_aload_n (i := 0) rfl rfl ?_
  refine g_getfield (v := .ref 67) rfl hf (by decide) f14 ?_
  refine g_iload_n (i := 1) rfl rfl ?_
  refine g_ialv (n := 8) (f := hd) (v := hd S) rfl a4 (i_in (by omega) (by omega)) (congrArg hd sn) ?_
  refine g_iconst (n := 2) rfl ?_
  rcases hx with ⟨y1, rfl, hR⟩ | ⟨y1, rfl, hR⟩ | ⟨y1, hi, rfl, hR⟩ | ⟨y1, i0, i1, i2, rfl, hR2⟩
  · skip
    refine g_icmp_ne 31 rfl rfl (fun hc => absurd hc (by exact fun z => z y1)) (fun _ => ?_)
    refine g_aload_n (i := 0) rfl rfl ?_
    refine g_bipush (n := (-2)) rfl ?_
    refine g_virt1 (Qc := fun r h' => r = some (.int (-2)) ∧ ∃ R, h' = List.set h9 61 (.inl (0, 8, .inl R))) rfl (by decide) rfl hf rfl (Nat.le_of_ble_eq_true rfl) (sDo_up (d := 1) (by decide) (s_no (d := 0) hH (by decide) (by decide))) (fun r h8 hq9 => ?_)
    obtain ⟨rfl, R, rfl⟩ := hq9
    refine g_ireturn (ty := .int) rfl rfl rfl ?_
    exact ⟨rfl, no_R hR⟩
  · skip
    refine g_icmp_ne 31 rfl rfl (fun _ => ?_) (fun hc => absurd hc (by rw [y1]; decide))
    refine g_aload_n (i := 0) rfl rfl ?_
    refine g_getfield (v := .ref 67) rfl hf (by decide) f14 ?_
    refine g_iload_n (i := 1) rfl rfl ?_
    refine g_ialv (n := 8) (f := hd) (v := hd S) rfl a4 (i_in (by omega) (by omega)) (congrArg hd sn) ?_
    refine g_if_ne 47 rfl rfl (fun hc => absurd hc (by exact fun z => z y1)) (fun _ => ?_)
    refine g_aload_n (i := 0) rfl rfl ?_
    refine g_bipush (n := (-3)) rfl ?_
    refine g_virt1 (Qc := fun r h' => r = some (.int (-3)) ∧ ∃ R, h' = List.set h9 61 (.inl (0, 8, .inl R))) rfl (by decide) rfl hf rfl (Nat.le_of_ble_eq_true rfl) (sDo_up (d := 1) (by decide) (s_no (d := 0) hH (by decide) (by decide))) (fun r h8 hq9 => ?_)
    obtain ⟨rfl, R, rfl⟩ := hq9
    refine g_ireturn (ty := .int) rfl rfl rfl ?_
    exact ⟨rfl, no_R hR⟩
  · skip
    refine g_icmp_ne 31 rfl rfl (fun _ => ?_) (fun hc => absurd hc (by rw [y1]; decide))
    refine g_aload_n (i := 0) rfl rfl ?_
    refine g_getfield (v := .ref 67) rfl hf (by decide) f14 ?_
    refine g_iload_n (i := 1) rfl rfl ?_
    refine g_ialv (n := 8) (f := hd) (v := hd S) rfl a4 (i_in (by omega) (by omega)) (congrArg hd sn) ?_
    refine g_if_ne 47 rfl rfl (fun _ => ?_) (fun hc => absurd hc (by rw [y1]; decide))
    refine g_iload_n (i := 2) rfl rfl ?_
    refine g_if_lt 61 rfl rfl (fun c1 => ?_) (fun c1 => ?_)
    · skip
      refine g_aload_n (i := 0) rfl rfl ?_
      refine g_bipush (n := (-5)) rfl ?_
      refine g_virt1 (Qc := fun r h' => r = some (.int (-5)) ∧ ∃ R, h' = List.set h9 61 (.inl (0, 8, .inl R))) rfl (by decide) rfl hf rfl (Nat.le_of_ble_eq_true rfl) (sDo_up (d := 1) (by decide) (s_no (d := 0) hH (by decide) (by decide))) (fun r h8 hq9 => ?_)
      obtain ⟨rfl, R, rfl⟩ := hq9
      refine g_ireturn (ty := .int) rfl rfl rfl ?_
      exact ⟨rfl, no_R hR⟩
    · skip
      rw [i_lt, e0] at c1
      refine g_iload_n (i := 2) rfl rfl ?_
      refine g_aload_n (i := 0) rfl rfl ?_
      refine g_getfield (v := .ref 69) rfl hf (by decide) f16 ?_
      refine g_iload_n (i := 1) rfl rfl ?_
      refine g_ialv (n := 8) (f := sz) (v := sz S) rfl a6 (i_in (by omega) (by omega)) (congrArg sz sn) ?_
      refine g_icmp_lt 68 rfl rfl (fun hc => absurd hc (by rw [i_lt]; omega)) (fun _ => ?_)
      refine g_aload_n (i := 0) rfl rfl ?_
      refine g_bipush (n := (-5)) rfl ?_
      refine g_virt1 (Qc := fun r h' => r = some (.int (-5)) ∧ ∃ R, h' = List.set h9 61 (.inl (0, 8, .inl R))) rfl (by decide) rfl hf rfl (Nat.le_of_ble_eq_true rfl) (sDo_up (d := 1) (by decide) (s_no (d := 0) hH (by decide) (by decide))) (fun r h8 hq9 => ?_)
      obtain ⟨rfl, R, rfl⟩ := hq9
      refine g_ireturn (ty := .int) rfl rfl rfl ?_
      exact ⟨rfl, no_R hR⟩
  · skip
    refine g_icmp_ne 31 rfl rfl (fun _ => ?_) (fun hc => absurd hc (by rw [y1]; decide))
    refine g_aload_n (i := 0) rfl rfl ?_
    refine g_getfield (v := .ref 67) rfl hf (by decide) f14 ?_
    refine g_iload_n (i := 1) rfl rfl ?_
    refine g_ialv (n := 8) (f := hd) (v := hd S) rfl a4 (i_in (by omega) (by omega)) (congrArg hd sn) ?_
    refine g_if_ne 47 rfl rfl (fun _ => ?_) (fun hc => absurd hc (by rw [y1]; decide))
    refine g_iload_n (i := 2) rfl rfl ?_
    refine g_if_lt 61 rfl rfl (fun hc => absurd hc (by rw [i_lt, e0]; omega)) (fun _ => ?_)
    refine g_iload_n (i := 2) rfl rfl ?_
    refine g_aload_n (i := 0) rfl rfl ?_
    refine g_getfield (v := .ref 69) rfl hf (by decide) f16 ?_
    refine g_iload_n (i := 1) rfl rfl ?_
    refine g_ialv (n := 8) (f := sz) (v := sz S) rfl a6 (i_in (by omega) (by omega)) (congrArg sz sn) ?_
    refine g_icmp_lt 68 rfl rfl (fun _ => ?_) (fun hc => absurd hc (by rw [i_lt]; omega))
    have in_ : (i.toNatClampNeg : Int) = i.toInt := by
      show ((i.toInt.toNat : Nat) : Int) = i.toInt
      omega
    have m1 : ((Int8.ofInt 100).toInt32 * s).toInt = 100 * S := by rw [i_mul (by rw [e100]; omega) (by rw [e100]; omega), e100, hs]
    have m2 : ((Int8.ofInt 100).toInt32 * s + i).toInt = ((100 * S + i.toNatClampNeg : Nat) : Int) := by rw [i_add (by rw [m1]; omega) (by rw [m1]; omega), m1]; omega
    refine g_aload_n (i := 0) rfl rfl ?_
    refine g_getfield (v := .ref 71) rfl hf (by decide) f18 ?_
    refine g_bipush (n := 100) rfl ?_
    refine g_iload_n (i := 1) rfl rfl ?_
    refine g_imul rfl ?_
    refine g_iload_n (i := 2) rfl rfl ?_
    refine g_iadd rfl ?_
    refine g_aload_n (i := 0) rfl rfl ?_
    refine g_getfield (v := .ref 68) rfl hf (by decide) f15 ?_
    refine g_iload_n (i := 1) rfl rfl ?_
    refine g_ialv (n := 8) (f := so) (v := so S) rfl a5 (i_in (by omega) (by omega)) (congrArg so sn) ?_
    refine g_if_ne 94 rfl rfl (fun c3 => ?_) (fun c3 => ?_)
    · skip
      refine g_aload_n (i := 0) rfl rfl ?_
      refine g_getfield (v := .ref 68) rfl hf (by decide) f15 ?_
      refine g_iload_n (i := 1) rfl rfl ?_
      refine g_ialv (n := 8) (f := so) (v := so S) rfl a5 (i_in (by omega) (by omega)) (congrArg so sn) ?_
      refine g_iconst (n := 1) rfl ?_
      refine g_icmp_ne 111 rfl rfl (fun c4 => ?_) (fun c4 => ?_)
      · skip
        refine g_aload_n (i := 0) rfl rfl ?_
        refine g_getfield (v := .ref 68) rfl hf (by decide) f15 ?_
        refine g_iload_n (i := 1) rfl rfl ?_
        refine g_ialv (n := 8) (f := so) (v := so S) rfl a5 (i_in (by omega) (by omega)) (congrArg so sn) ?_
        refine g_iconst (n := 2) rfl ?_
        refine g_icmp_ne 127 rfl rfl (fun c5 => ?_) (fun c5 => ?_)
        · skip
          refine g_lload_n (i := 3) rfl rfl ?_
          refine g_lastore (h1 := h9.set 71 (.inl (1, 800, .inr (.inl (vp_updL cl (100 * S + i.toNatClampNeg) (nrw (so S) v)))))) rfl a8 (i_in (by omega) (by omega)) (by rw [i_nat m2]; unfold nrw; rw [if_neg c3, if_neg (show ¬ so S = 1 from c4), if_neg (show ¬ so S = 2 from c5)]) ?_
          refine g_iconst (n := 1) rfl ?_
          refine g_ireturn (ty := .int) rfl rfl rfl ?_
          exact ⟨rfl, hR2⟩
        · skip
          refine g_lload_n (i := 3) rfl rfl ?_
          refine g_l2i rfl ?_
          refine g_i2l rfl ?_
          refine g_goto 128 rfl rfl ?_
          refine g_lastore (h1 := h9.set 71 (.inl (1, 800, .inr (.inl (vp_updL cl (100 * S + i.toNatClampNeg) (nrw (so S) v)))))) rfl a8 (i_in (by omega) (by omega)) (by rw [i_nat m2]; unfold nrw; rw [if_neg c3, if_neg (show ¬ so S = 1 from c4), if_pos (show so S = 2 from c5)]) ?_
          refine g_iconst (n := 1) rfl ?_
          refine g_ireturn (ty := .int) rfl rfl rfl ?_
          exact ⟨rfl, hR2⟩
      · skip
        refine g_lload_n (i := 3) rfl rfl ?_
        refine g_l2i rfl ?_
        refine g_i2s rfl ?_
        refine g_i2l rfl ?_
        refine g_goto 128 rfl rfl ?_
        refine g_lastore (h1 := h9.set 71 (.inl (1, 800, .inr (.inl (vp_updL cl (100 * S + i.toNatClampNeg) (nrw (so S) v)))))) rfl a8 (i_in (by omega) (by omega)) (by rw [i_nat m2]; unfold nrw; rw [if_neg c3, if_pos (show so S = 1 from c4)]) ?_
        refine g_iconst (n := 1) rfl ?_
        refine g_ireturn (ty := .int) rfl rfl rfl ?_
        exact ⟨rfl, hR2⟩
    · skip
      refine g_lload_n (i := 3) rfl rfl ?_
      refine g_l2i rfl ?_
      refine g_i2b rfl ?_
      refine g_i2l rfl ?_
      refine g_goto 128 rfl rfl ?_
      refine g_lastore (h1 := h9.set 71 (.inl (1, 800, .inr (.inl (vp_updL cl (100 * S + i.toNatClampNeg) (nrw (so S) v)))))) rfl a8 (i_in (by omega) (by omega)) (by rw [i_nat m2]; unfold nrw; rw [if_pos c3]) ?_
      refine g_iconst (n := 1) rfl ?_
      refine g_ireturn (ty := .int) rfl rfl rfl ?_
      exact ⟨rfl, hR2⟩
theorem el_put {hd so sz co : Nat → Int32} {cl : Nat → Int64} {f g : Nat → Option Nat} {h : sHp} {S I : Nat} {ot z : Int32} {el : Nat → Int64} {w : Int64} (q4 : bR4 h hd so sz co cl f g) (q5 : ∀ s, s < 8 → bRS hd so sz co cl g h s) (hS : S < 8) (b1 : h[44 + 2 * S]? = some (.inr (7, [.int ot, .int z, .ref (45 + 2 * S)]))) (b2 : h[45 + 2 * S]? = some (.inl (1, 100, .inr (.inl el)))) (hI : I < 100) (b3 : bSh hd so sz co cl g h S ot z el) : bR5 ((h.set (45 + 2 * S) (.inl (1, 100, .inr (.inl (vp_updL el I w))))).set 71 (.inl (1, 800, .inr (.inl (vp_updL cl (100 * S + I) w))))) := by
  obtain ⟨a1, a2, a3, a4, a5, a6, a7, a8⟩ := q4
  refine ⟨hd, so, sz, co, vp_updL cl (100 * S + I) w, f, g, ⟨by rw [s_set_ne (by decide), s_set_ne (by omega)]; exact a1, a2, by rw [s_set_ne (by decide), s_set_ne (by omega)]; exact a3, by rw [s_set_ne (by decide), s_set_ne (by omega)]; exact a4, by rw [s_set_ne (by decide), s_set_ne (by omega)]; exact a5, by rw [s_set_ne (by decide), s_set_ne (by omega)]; exact a6, by rw [s_set_ne (by decide), s_set_ne (by omega)]; exact a7, s_set_eq (by rw [s_set_ne (by omega)]; exact a8)⟩, fun t ht => ?_⟩
  by_cases e : t = S
  · subst e
    refine ⟨ot, z, vp_updL el I w, by rw [s_set_ne (by omega), s_set_ne (by omega)]; exact b1, by rw [s_set_ne (by omega)]; exact s_set_eq b2, ?_⟩
    rcases bSh_set (p := 71) (c := .inl (1, 800, .inr (.inl (vp_updL cl (100 * t + I) w)))) (bSh_set (p := 45 + 2 * t) (c := .inl (1, 100, .inr (.inl (vp_updL el I w)))) b3 (by omega)) (by decide) with x | ⟨x1, x2, x3, x4, x5, x6, x7, x8, x9⟩ | x
    · exact Or.inl x
    · refine Or.inr (Or.inl ⟨x1, x2, x3, x4, x5, x6, x7, x8, fun i hi => ?_⟩)
      unfold vp_updL
      by_cases ei : i = I
      · rw [if_pos ei, if_pos (by omega)]
      · rw [if_neg ei, if_neg (by omega)]
        exact x9 i hi
    · exact Or.inr (Or.inr x)
  · obtain ⟨ot', z', el', r1, r2, r3⟩ := bRS_set (p := 71) (c := .inl (1, 800, .inr (.inl (vp_updL cl (100 * S + I) w)))) (bRS_set (p := 45 + 2 * S) (c := .inl (1, 100, .inr (.inl (vp_updL el I w)))) (q5 t ht) (by omega) (by omega) (by omega)) (by decide) (by omega) (by omega)
    refine ⟨ot', z', el', r1, r2, ?_⟩
    rcases r3 with x | ⟨x1, x2, x3, x4, x5, x6, x7, x8, x9⟩ | x
    · exact Or.inl x
    · refine Or.inr (Or.inl ⟨x1, x2, x3, x4, x5, x6, x7, x8, fun i hi => ?_⟩)
      unfold vp_updL
      rw [if_neg (by omega)]
      exact x9 i hi
    · exact Or.inr (Or.inr x)
theorem pr_set (s i : Int32) (v : Int64) : bPair 115 179 [.int s, .int i, .long v] := by
  have c1 : ∀ h, bH h → sDo 10 115 (.ref 0 :: [.int s, .int i, .long v]) h (fun _ h' => bH h' ∧ h'.length ≤ h.length + 1) := fun h hH => pr_use ch_X11_set_0 (by decide +kernel) (by decide +kernel) rfl hH ⟨bt0 hH, vI0 s, vI0 i, vL0 v, trivial⟩
  have c2 : ∀ h, bH h → sDo 10 179 (.ref 60 :: [.int s, .int i, .long v]) h (fun _ h' => bH h' ∧ h'.length ≤ h.length + 1) := fun h hH => pr_use ch_X12_set_0 (by decide +kernel) (by decide +kernel) rfl hH ⟨bt60 hH, vI0 s, vI0 i, vL0 v, trivial⟩
  intro h hH hR
  by_cases hs : 0 ≤ s.toInt ∧ s.toInt < 8
  · obtain ⟨hd, so, sz, co, cl, f, g, q4, q5⟩ := hR
    have hR : bR5 h := ⟨hd, so, sz, co, cl, f, g, q4, q5⟩
    obtain ⟨S, hS⟩ : ∃ S : Nat, s.toInt = S := ⟨s.toInt.toNat, by omega⟩
    have hS8 : S < 8 := by omega
    obtain ⟨ot, z, el, b1, b2, b3⟩ := q5 S hS8
    have b3c := b3
    rcases b3 with ⟨x1, x2, x3⟩ | ⟨x1, x2, x3, x4, x5, x6, x7, x8, x9⟩ | ⟨x1, x2, pc, x3, x4, x5⟩
    · refine pair_case hH c1 c2 (s_set11_no hH q4 hS hS8 b1 b2 b3c (by rw [x1]; decide)) (fun h1 hH1 hP => s_set12_in hH1 (pRef_4 hP q4) hS hS8 (Or.inr (Or.inl ⟨x1, ?_, pRef_5 hP hR⟩)))
      unfold nrOf
      rw [x1]; rfl
    · by_cases hi : 0 ≤ i.toInt ∧ i.toInt < z.toInt
      · have in_ : (i.toNatClampNeg : Int) = i.toInt := by
          show ((i.toInt.toNat : Nat) : Int) = i.toInt
          omega
        refine pair_case hH c1 c2 (s_set11_in hH q4 hS hS8 b1 b2 b3c x1 (Or.inr ⟨hi.1, hi.2, rfl, rfl⟩)) (fun h1 hH1 hP => ?_)
        subst hP
        refine s_set12_in hH1 (bR4_set q4 (by omega) (by omega) (by omega)) hS hS8 (Or.inr (Or.inr (Or.inr ⟨x1, hi.1, by rw [← x6]; exact hi.2, by rw [← x6]; exact x8, rfl, ?_⟩)))
        rw [← x3]
        exact el_put q4 q5 hS8 b1 b2 (by omega) b3c
      · exact pair_case hH c1 c2 (s_set11_in hH q4 hS hS8 b1 b2 b3c x1 (Or.inl ⟨hi, rfl, rfl⟩)) (fun h1 hH1 hP => s_set12_in hH1 (pRef_4 hP q4) hS hS8 (Or.inr (Or.inr (Or.inl ⟨x1, by rw [← x6]; exact hi, rfl, pRef_5 hP hR⟩))))
    · refine pair_case hH c1 c2 (s_set11_no hH q4 hS hS8 b1 b2 b3c (by rw [x1]; decide)) (fun h1 hH1 hP => s_set12_in hH1 (pRef_4 hP q4) hS hS8 (Or.inl ⟨x1, ?_, pRef_5 hP hR⟩))
      unfold nrOf
      rw [x1]; rfl
  · exact pair_case hH c1 c2 (s_set11_out hH hs) (fun h1 hH1 hP => s_set12_out hH1 (pRef_5 hP hR) hs)
