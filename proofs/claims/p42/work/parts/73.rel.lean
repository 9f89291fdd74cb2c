/-! ===== pairs: element, holds, cut ===== -/
theorem s_at7 {d : Nat} {h : sHp} {p ep : Nat} {ot z i : Int32} {el : Nat → Int64} {w : Int64} (hp : h[p]? = some (.inr (7, [.int ot, .int z, .ref ep]))) (he : h[ep]? = some (.inl (1, 100, .inr (.inl el)))) (z1 : z.toInt ≤ 100) (hw : w = if 0 ≤ i.toInt ∧ i.toInt < z.toInt then el i.toNatClampNeg else 0) : sDo (d + 2) 84 [.ref p, .int i] h (fun r h' => h' = h ∧ r = some (.long w)) := by
  refine sDo_of (d := d + 1) (nL := 2) (L := [some (.ref p), some (.int i)]) rfl rfl ?_
  refine g_aload_n (i := 0) rfl rfl ?_
  refine g_iload_n (i := 1) rfl rfl ?_
  by_cases hi : 0 ≤ i.toInt ∧ i.toInt < z.toInt
  · skip
    refine g_virt1 (Qc := fun r h' => h' = h ∧ r = some (.int 1)) rfl (by decide) rfl hp rfl (Nat.le_of_ble_eq_true rfl) (s_has7 hp (by rw [if_pos hi])) (fun r h9 hq9 => ?_)
    obtain ⟨rfl, rfl⟩ := hq9
    refine g_if_eq 17 rfl rfl (fun hc => absurd hc (by decide)) (fun _ => ?_)
    refine g_aload_n (i := 0) rfl rfl ?_
    refine g_getfield (v := .ref ep) rfl hp (by decide) rfl ?_
    refine g_iload_n (i := 1) rfl rfl ?_
    refine g_laload (n := 100) (f := el) rfl he (by exact i_in (by omega) (by omega)) ?_
    refine g_goto 18 rfl rfl ?_
    refine g_lreturn rfl rfl ?_
    rw [hw, if_pos hi]; exact ⟨rfl, rfl⟩
  · skip
    refine g_virt1 (Qc := fun r h' => h' = h ∧ r = some (.int 0)) rfl (by decide) rfl hp rfl (Nat.le_of_ble_eq_true rfl) (s_has7 hp (by rw [if_neg hi])) (fun r h9 hq9 => ?_)
    obtain ⟨rfl, rfl⟩ := hq9
    refine g_if_eq 17 rfl rfl (fun _ => ?_) (fun hc => absurd hc (by decide))
    refine g_lconst (n := 0) rfl ?_
    refine g_lreturn rfl rfl ?_
    rw [hw, if_neg hi]; exact ⟨rfl, rfl⟩
theorem s_el11_no {h : sHp} {s i nr : Int32} (hH : bH h) (hn : ¬ nr = 0) (hc : sDo 2 161 [.ref 0, .int s] h (fun r h' => h' = h ∧ r = some (.int nr))) : sDo 10 117 [.ref 0, .int s, .int i] h (fun r h' => r = some (.long 0) ∧ h' = h) := by
  obtain ⟨fs, hf, -⟩ := bFldK hH (p := 0) (by decide) rfl
  refine sDo_of (d := 9) (nL := 3) (L := [some (.ref 0), some (.int s), some (.int i)]) rfl rfl ?_
  refine g_aload_n (i := 0) rfl rfl ?_
  refine g_iload_n (i := 1) rfl rfl ?_
  refine g_virt1 (Qc := fun r h' => h' = h ∧ r = some (.int nr)) rfl (by decide) rfl hf rfl (Nat.le_of_ble_eq_true rfl) (sDo_up (d := 2) (by decide) hc) (fun r h9 hq9 => ?_)
  obtain ⟨rfl, rfl⟩ := hq9
  refine g_if_ne 21 rfl rfl (fun _ => ?_) (fun hc => absurd hc (by exact hn))
  refine g_lconst (n := 0) rfl ?_
  refine g_lreturn rfl rfl ?_
  exact ⟨rfl, rfl⟩
theorem s_el11_in {h : sHp} {hd so sz co : Nat → Int32} {cl : Nat → Int64} {f g : Nat → Option Nat} {s i : Int32} {S : Nat} {ot z : Int32} {el : Nat → Int64} (hH : bH h) (q4 : bR4 h hd so sz co cl f g) (hs : s.toInt = S) (hS : S < 8) (b1 : h[44 + 2 * S]? = some (.inr (7, [.int ot, .int z, .ref (45 + 2 * S)]))) (b2 : h[45 + 2 * S]? = some (.inl (1, 100, .inr (.inl el)))) (b3 : bSh hd so sz co cl g h S ot z el) (h1 : hd S = 1) {w : Int64} (hw : w = if 0 ≤ i.toInt ∧ i.toInt < z.toInt then el i.toNatClampNeg else 0) : sDo 10 117 [.ref 0, .int s, .int i] h (fun r h' => r = some (.long w) ∧ h' = h) := by
  have q4c := q4
  have hz : z.toInt ≤ 100 := by
    rcases b3 with ⟨y1, -⟩ | ⟨-, -, -, -, -, -, -, y8, -⟩ | ⟨y1, -⟩
    · rw [h1] at y1
      exact absurd y1 (by decide)
    · exact y8
    · rw [h1] at y1
      exact absurd y1 (by decide)
  have hn : nrOf hd S = 0 := by
    unfold nrOf
    rw [if_pos h1]
  obtain ⟨a1, a2, a3, a4, a5, a6, a7, a8⟩ := q4
  obtain ⟨fs, hf, -, hfs⟩ := bFldK hH (p := 0) (by decide) rfl
  obtain ⟨v0, f0, r0⟩ := hfs 0 _ rfl
  cases bT_one (by decide) (by decide +kernel) r0
  obtain ⟨v1, f1, r1⟩ := hfs 1 _ rfl
  cases bT_one (by decide) (by decide +kernel) r1
  have sn : s.toNatClampNeg = S := i_nat hs
  have fS : va_rf (f s.toNatClampNeg) = .ref (44 + 2 * S) := by rw [sn, a2 S hS]; rfl
  refine sDo_of (d := 9) (nL := 3) (L := [some (.ref 0), some (.int s), some (.int i)]) rfl rfl ?_
  refine g_aload_n (i := 0) rfl rfl ?_
  refine g_iload_n (i := 1) rfl rfl ?_
  refine g_virt1 (Qc := fun r h' => h' = h ∧ r = some (.int 0)) rfl (by decide) rfl hf rfl (Nat.le_of_ble_eq_true rfl) (sDo_mono (sDo_up (d := 2) (by decide) (s_noIn (d := 0) hH q4c hs hS b1 b3)) (fun r h' q => by rw [← hn]; exact q)) (fun r h9 hq9 => ?_)
  obtain ⟨rfl, rfl⟩ := hq9
  refine g_if_ne 21 rfl rfl (fun hc => absurd hc (by decide)) (fun _ => ?_)
  refine g_aload_n (i := 0) rfl rfl ?_
  refine g_getfield (v := .ref 1) rfl hf (by decide) f0 ?_
  refine g_iload_n (i := 1) rfl rfl ?_
  refine g_aaload rfl a1 (by decide) (i_in (by omega) (by omega)) ?_
  rw [fS]
  refine g_iload_n (i := 2) rfl rfl ?_
  refine g_virt1 (Qc := fun r h' => h' = h9 ∧ r = some (.long w)) rfl (by decide) rfl b1 rfl (Nat.le_of_ble_eq_true rfl) (sDo_up (d := 2) (by decide) (s_at7 (d := 0) b1 b2 hz hw)) (fun r h8 hq9 => ?_)
  obtain ⟨rfl, rfl⟩ := hq9
  refine g_goto 22 rfl rfl ?_
  refine g_lreturn rfl rfl ?_
  exact ⟨rfl, rfl⟩
theorem s_el12_out {h : sHp} {s i : Int32} (hH : bH h) (hR : bR5 h) (hs : ¬ (0 ≤ s.toInt ∧ s.toInt < 8)) : sDo 10 181 [.ref 60, .int s, .int i] h (fun r h' => r = some (.long 0) ∧ bR5 h') := by
  obtain ⟨fs, hf, -⟩ := bObj60 hH
  refine sDo_of (d := 9) (nL := 3) (L := [some (.ref 60), some (.int s), some (.int i)]) rfl rfl ?_
  refine g_aload_n (i := 0) rfl rfl ?_
  refine g_iload_n (i := 1) rfl rfl ?_
  refine g_virt1 (Qc := fun r h' => h' = h ∧ r = some (.int 0)) rfl (by decide) rfl hf rfl (Nat.le_of_ble_eq_true rfl) (s_sh12 (by rw [if_neg hs])) (fun r h9 hq9 => ?_)
  obtain ⟨rfl, rfl⟩ := hq9
  refine g_if_eq 46 rfl rfl (fun _ => ?_) (fun hc => absurd hc (by decide))
  refine g_lconst (n := 0) rfl ?_
  refine g_lreturn rfl rfl ?_
  exact ⟨rfl, hR⟩
theorem s_el12_in {h : sHp} {hd so sz co : Nat → Int32} {cl : Nat → Int64} {f g : Nat → Option Nat} {s i : Int32} {S : Nat} (hH : bH h) (q4 : bR4 h hd so sz co cl f g) (hR : bR5 h) (hs : s.toInt = S) (hS : S < 8) (hz : hd S = 1 → (sz S).toInt ≤ 100) {w : Int64} (hw : w = if hd S = 1 ∧ 0 ≤ i.toInt ∧ i.toInt < (sz S).toInt then cl (100 * S + i.toNatClampNeg) else 0) : sDo 10 181 [.ref 60, .int s, .int i] h (fun r h' => r = some (.long w) ∧ bR5 h') := by
  obtain ⟨a1, a2, a3, a4, a5, a6, a7, a8⟩ := q4
  obtain ⟨fs, hf, -⟩ := bObj60 hH
  obtain ⟨w14, f14, r14⟩ := bF60 hH hf (j := 14) (ty := .inr (2, 67)) (by decide +kernel)
  cases bT_one (by decide) (by decide +kernel) r14
  obtain ⟨w15, f15, r15⟩ := bF60 hH hf (j := 15) (ty := .inr (2, 68)) (by decide +kernel)
  cases bT_one (by decide) (by decide +kernel) r15
  obtain ⟨w16, f16, r16⟩ := bF60 hH hf (j := 16) (ty := .inr (2, 69)) (by decide +kernel)
  cases bT_one (by decide) (by decide +kernel) r16
  obtain ⟨w17, f17, r17⟩ := bF60 hH hf (j := 17) (ty := .inr (2, 70)) (by decide +kernel)
  cases bT_one (by decide) (by decide +kernel) r17
  obtain ⟨w18, f18, r18⟩ := bF60 hH hf (j := 18) (ty := .inr (2, 71)) (by decide +kernel)
  cases bT_one (by decide) (by decide +kernel) r18
  have sn : s.toNatClampNeg = S := i_nat hs
  have e0 : (0 : Int32).toInt = 0 := rfl
  have e100 : (Int8.ofInt 100).toInt32.toInt = 100 := rfl
  refine sDo_of (d := 9) (nL := 3) (L := [some (.ref 60), some (.int s), some (.int i)]) rfl rfl ?_
  refine g_aload_n (i := 0) rfl rfl ?_
  refine g_iload_n (i := 1) rfl rfl ?_
  refine g_virt1 (Qc := fun r h' => h' = h ∧ r = some (.int 1)) rfl (by decide) rfl hf rfl (Nat.le_of_ble_eq_true rfl) (s_sh12 (by rw [if_pos (by omega)])) (fun r h9 hq9 => ?_)
  obtain ⟨rfl, rfl⟩ := hq9
  refine g_if_eq 46 rfl rfl (fun hc => absurd hc (by decide)) (fun _ => ?_)
  refine g_aload_n (i := 0) rfl rfl ?_
  refine g_getfield (v := .ref 67) rfl hf (by decide) f14 ?_
  refine g_iload_n (i := 1) rfl rfl ?_
  refine g_ialv (n := 8) (f := hd) (v := hd S) rfl a4 (i_in (by omega) (by omega)) (congrArg hd sn) ?_
  refine g_iconst (n := 1) rfl ?_
  refine g_icmp_ne 46 rfl rfl (fun c1 => ?_) (fun c1 => ?_)
  · skip
    refine g_lconst (n := 0) rfl ?_
    refine g_lreturn rfl rfl ?_
    rw [hw, if_neg (fun z => c1 z.1)]; exact ⟨rfl, hR⟩
  · skip
    replace c1 : hd S = 1 := c1
    refine g_iload_n (i := 2) rfl rfl ?_
    refine g_if_lt 46 rfl rfl (fun c2 => ?_) (fun c2 => ?_)
    · skip
      rw [i_lt, e0] at c2
      refine g_lconst (n := 0) rfl ?_
      refine g_lreturn rfl rfl ?_
      rw [hw, if_neg (fun z => by omega)]; exact ⟨rfl, hR⟩
    · skip
      rw [i_lt, e0] at c2
      refine g_iload_n (i := 2) rfl rfl ?_
      refine g_aload_n (i := 0) rfl rfl ?_
      refine g_getfield (v := .ref 69) rfl hf (by decide) f16 ?_
      refine g_iload_n (i := 1) rfl rfl ?_
      refine g_ialv (n := 8) (f := sz) (v := sz S) rfl a6 (i_in (by omega) (by omega)) (congrArg sz sn) ?_
      refine g_icmp_ge 46 rfl rfl (fun c3 => ?_) (fun c3 => ?_)
      · skip
        rw [i_le] at c3
        refine g_lconst (n := 0) rfl ?_
        refine g_lreturn rfl rfl ?_
        rw [hw, if_neg (fun z => by omega)]; exact ⟨rfl, hR⟩
      · skip
        rw [i_le] at c3
        have hz := hz c1
        have in_ : (i.toNatClampNeg : Int) = i.toInt := by
          show ((i.toInt.toNat : Nat) : Int) = i.toInt
          omega
        have m1 : ((Int8.ofInt 100).toInt32 * s).toInt = 100 * S := by rw [i_mul (by rw [e100]; omega) (by rw [e100]; omega), e100, hs]
        have m2 : ((Int8.ofInt 100).toInt32 * s + i).toInt = ((100 * S + i.toNatClampNeg : Nat) : Int) := by rw [i_add (by rw [m1]; omega) (by rw [m1]; omega), m1]; omega
        have hw2 : w = cl (100 * S + i.toNatClampNeg) := by rw [hw, if_pos ⟨c1, by omega, by omega⟩]
        refine g_aload_n (i := 0) rfl rfl ?_
        refine g_getfield (v := .ref 71) rfl hf (by decide) f18 ?_
        refine g_bipush (n := 100) rfl ?_
        refine g_iload_n (i := 1) rfl rfl ?_
        refine g_imul rfl ?_
        refine g_iload_n (i := 2) rfl rfl ?_
        refine g_iadd rfl ?_
        refine g_laload (n := 800) (f := cl) rfl a8 (i_in (by omega) (by omega)) ?_
        rw [i_nat m2, ← hw2]
        refine g_goto 47 rfl rfl ?_
        refine g_lreturn rfl rfl ?_
        exact ⟨rfl, hR⟩
theorem pr_element (s i : Int32) : bPair 117 181 [.int s, .int i] := by
  have c1 : ∀ h, bH h → sDo 10 117 (.ref 0 :: [.int s, .int i]) h (fun _ h' => bH h' ∧ h'.length ≤ h.length + 1) := fun h hH => pr_use ch_X11_element_0 (by decide +kernel) (by decide +kernel) rfl hH ⟨bt0 hH, vI0 s, vI0 i, trivial⟩
  have c2 : ∀ h, bH h → sDo 10 181 (.ref 60 :: [.int s, .int i]) h (fun _ h' => bH h' ∧ h'.length ≤ h.length + 1) := fun h hH => pr_use ch_X12_element_0 (by decide +kernel) (by decide +kernel) rfl hH ⟨bt60 hH, vI0 s, vI0 i, trivial⟩
  intro h hH hR
  by_cases hs : 0 ≤ s.toInt ∧ s.toInt < 8
  · obtain ⟨hd, so, sz, co, cl, f, g, q4, q5⟩ := hR
    have hR : bR5 h := ⟨hd, so, sz, co, cl, f, g, q4, q5⟩
    obtain ⟨S, hS⟩ : ∃ S : Nat, s.toInt = S := ⟨s.toInt.toNat, by omega⟩
    have hS8 : S < 8 := by omega
    obtain ⟨ot, z, el, b1, b2, b3⟩ := q5 S hS8
    have b3c := b3
    rcases b3 with ⟨x1, x2, x3⟩ | ⟨x1, x2, x3, x4, x5, x6, x7, x8, x9⟩ | ⟨x1, x2, pc, x3, x4, x5, x6, x7⟩
    · refine pair_case (x := .long 0) hH c1 c2 (s_el11_no hH (nr := nrOf hd S) (by unfold nrOf; rw [x1]; decide) (s_noIn (d := 0) hH q4 hS hS8 b1 b3c)) (fun h1 hH1 hP => ?_)
      subst hP
      exact s_el12_in hH1 q4 hR hS hS8 (fun z => by rw [x1] at z; exact absurd z (by decide)) (by rw [if_neg]; intro z; rw [x1] at z; exact absurd z.1 (by decide))
    · refine pair_case (x := .long (if 0 ≤ i.toInt ∧ i.toInt < z.toInt then el i.toNatClampNeg else 0)) hH c1 c2 (s_el11_in hH q4 hS hS8 b1 b2 b3c x1 rfl) (fun h1 hH1 hP => ?_)
      subst hP
      refine s_el12_in hH1 q4 hR hS hS8 (fun _ => by rw [← x6]; exact x8) ?_
      by_cases hi : 0 ≤ i.toInt ∧ i.toInt < z.toInt
      · have in_ : (i.toNatClampNeg : Int) = i.toInt := by
          show ((i.toInt.toNat : Nat) : Int) = i.toInt
          omega
        rw [if_pos hi, if_pos ⟨x1, hi.1, by rw [← x6]; exact hi.2⟩]
        exact x9 _ (by omega)
      · rw [if_neg hi, if_neg (fun z => hi ⟨z.2.1, by rw [x6]; exact z.2.2⟩)]
    · refine pair_case (x := .long 0) hH c1 c2 (s_el11_no hH (nr := nrOf hd S) (by unfold nrOf; rw [x1]; decide) (s_noIn (d := 0) hH q4 hS hS8 b1 b3c)) (fun h1 hH1 hP => ?_)
      subst hP
      exact s_el12_in hH1 q4 hR hS hS8 (fun z => by rw [x1] at z; exact absurd z (by decide)) (by rw [if_neg]; intro z; rw [x1] at z; exact absurd z.1 (by decide))
  · refine pair_case (x := .long 0) hH c1 c2 (s_el11_no hH (nr := -1) (by decide) (s_noOut (d := 0) hs)) (fun h1 hH1 hP => ?_)
    subst hP
    exact s_el12_out hH1 hR hs
theorem s_ho11_out {h : sHp} {s : Int32} (hH : bH h) (hs : ¬ (0 ≤ s.toInt ∧ s.toInt < 8)) : sDo 10 119 [.ref 0, .int s] h (fun r h' => r = some (.int (-1)) ∧ h' = h) := by
  refine sDo_of (d := 9) (nL := 2) (L := [some (.ref 0), some (.int s)]) rfl rfl ?_
  refine g_iload_n (i := 1) rfl rfl ?_
  refine g_static1 (Qc := fun r h' => h' = h ∧ r = some (.int 0)) rfl (by decide) rfl (Nat.le_of_ble_eq_true rfl) (s_sh11 (by rw [if_neg hs])) (fun r h9 hq9 => ?_)
  obtain ⟨rfl, rfl⟩ := hq9
  refine g_if_ne 9 rfl rfl (fun hc => absurd hc (by decide)) (fun _ => ?_)
  refine g_iconst (n := (-1)) rfl ?_
  refine g_ireturn (ty := .int) rfl rfl rfl ?_
  exact ⟨rfl, rfl⟩
theorem s_ho11_in {h : sHp} {hd so sz co : Nat → Int32} {cl : Nat → Int64} {f g : Nat → Option Nat} {s : Int32} {S : Nat} {ot z : Int32} {el : Nat → Int64} (hH : bH h) (q4 : bR4 h hd so sz co cl f g) (hs : s.toInt = S) (hS : S < 8) (b1 : h[44 + 2 * S]? = some (.inr (7, [.int ot, .int z, .ref (45 + 2 * S)]))) (b2 : h[45 + 2 * S]? = some (.inl (1, 100, .inr (.inl el)))) (b3 : bSh hd so sz co cl g h S ot z el) {x : Int32} (hx : (hd S = 0 ∧ x = -1) ∨ (hd S = 1 ∧ x = Int32.ofInt 10000 + so S) ∨ (hd S = 2 ∧ x = co S)) : sDo 10 119 [.ref 0, .int s] h (fun r h' => r = some (.int x) ∧ h' = h) := by
  obtain ⟨a1, a2, a3, a4, a5, a6, a7, a8⟩ := q4
  obtain ⟨fs, hf, -, hfs⟩ := bFldK hH (p := 0) (by decide) rfl
  obtain ⟨v0, f0, r0⟩ := hfs 0 _ rfl
  cases bT_one (by decide) (by decide +kernel) r0
  obtain ⟨v1, f1, r1⟩ := hfs 1 _ rfl
  cases bT_one (by decide) (by decide +kernel) r1
  have sn : s.toNatClampNeg = S := i_nat hs
  have fS : va_rf (f s.toNatClampNeg) = .ref (44 + 2 * S) := by rw [sn, a2 S hS]; rfl
  refine sDo_of (d := 9) (nL := 2) (L := [some (.ref 0), some (.int s)]) rfl rfl ?_
  refine g_iload_n (i := 1) rfl rfl ?_
  refine g_static1 (Qc := fun r h' => h' = h ∧ r = some (.int 1)) rfl (by decide) rfl (Nat.le_of_ble_eq_true rfl) (s_sh11 (by rw [if_pos (by omega)])) (fun r h9 hq9 => ?_)
  obtain ⟨rfl, rfl⟩ := hq9
  refine g_if_ne 9 rfl rfl (fun _ => ?_) (fun hc => absurd hc (by decide))
  refine g_aload_n (i := 0) rfl rfl ?_
  refine g_getfield (v := .ref 2) rfl hf (by decide) f1 ?_
  refine g_iload_n (i := 1) rfl rfl ?_
  rcases b3 with ⟨x1, x2, x3⟩ | ⟨x1, x2, x3, x4, x5, x6, x7, x8, x9⟩ | ⟨x1, x2, pc, x3, x4, x5, x6, x7⟩
  · skip
    have hgS : va_rf (g s.toNatClampNeg) = .null := by rw [sn, x2]; rfl
    refine g_aaload rfl a3 (by decide) (i_in (by omega) (by omega)) ?_
    rw [hgS]
    refine g_ifnullN 28 rfl rfl ?_
    refine g_aload_n (i := 0) rfl rfl ?_
    refine g_getfield (v := .ref 1) rfl hf (by decide) f0 ?_
    refine g_iload_n (i := 1) rfl rfl ?_
    refine g_aaload rfl a1 (by decide) (i_in (by omega) (by omega)) ?_
    rw [fS]
    refine g_virt0 (Qc := fun r h' => h' = h9 ∧ r = some (.int 0)) rfl (by decide) rfl b1 rfl (Nat.le_of_ble_eq_true rfl) (s_isHeld b1 (by rw [if_pos x3])) (fun r h8 hq9 => ?_)
    obtain ⟨rfl, rfl⟩ := hq9
    refine g_if_eq 56 rfl rfl (fun _ => ?_) (fun hc => absurd hc (by decide))
    refine g_iconst (n := (-1)) rfl ?_
    refine g_ireturn (ty := .int) rfl rfl rfl ?_
    rcases hx with ⟨-, rfl⟩ | ⟨y1, -⟩ | ⟨y1, -⟩
    · exact ⟨rfl, rfl⟩
    · rw [x1] at y1
      exact absurd y1 (by decide)
    · rw [x1] at y1
      exact absurd y1 (by decide)
  · skip
    have hgS : va_rf (g s.toNatClampNeg) = .null := by rw [sn, x2]; rfl
    refine g_aaload rfl a3 (by decide) (i_in (by omega) (by omega)) ?_
    rw [hgS]
    refine g_ifnullN 28 rfl rfl ?_
    refine g_aload_n (i := 0) rfl rfl ?_
    refine g_getfield (v := .ref 1) rfl hf (by decide) f0 ?_
    refine g_iload_n (i := 1) rfl rfl ?_
    refine g_aaload rfl a1 (by decide) (i_in (by omega) (by omega)) ?_
    rw [fS]
    refine g_virt0 (Qc := fun r h' => h' = h9 ∧ r = some (.int 1)) rfl (by decide) rfl b1 rfl (Nat.le_of_ble_eq_true rfl) (s_isHeld b1 (by rw [if_neg (fun z => by rw [z] at x4; exact absurd x4 (by decide))])) (fun r h8 hq9 => ?_)
    obtain ⟨rfl, rfl⟩ := hq9
    refine g_if_eq 56 rfl rfl (fun hc => absurd hc (by decide)) (fun _ => ?_)
    refine g_sipush (n := 10000) rfl ?_
    refine g_aload_n (i := 0) rfl rfl ?_
    refine g_getfield (v := .ref 1) rfl hf (by decide) f0 ?_
    refine g_iload_n (i := 1) rfl rfl ?_
    refine g_aaload rfl a1 (by decide) (i_in (by omega) (by omega)) ?_
    rw [fS]
    refine g_getfield (v := .int ot) rfl b1 (by decide) rfl ?_
    refine g_iadd rfl ?_
    refine g_goto 57 rfl rfl ?_
    refine g_ireturn (ty := .int) rfl rfl rfl ?_
    rcases hx with ⟨y1, -⟩ | ⟨-, rfl⟩ | ⟨y1, -⟩
    · rw [x1] at y1
      exact absurd y1 (by decide)
    · rw [x3]
      exact ⟨rfl, rfl⟩
    · rw [x1] at y1
      exact absurd y1 (by decide)
  · skip
    have hgS : va_rf (g s.toNatClampNeg) = .ref pc := by rw [sn, x4]; rfl
    refine g_aaload rfl a3 (by decide) (i_in (by omega) (by omega)) ?_
    rw [hgS]
    refine g_ifnull 28 rfl rfl ?_
    refine g_aload_n (i := 0) rfl rfl ?_
    refine g_getfield (v := .ref 2) rfl hf (by decide) f1 ?_
    refine g_iload_n (i := 1) rfl rfl ?_
    refine g_aaload rfl a3 (by decide) (i_in (by omega) (by omega)) ?_
    rw [hgS]
    refine g_getfield (v := .int (co S)) rfl x5 (cut_ty (bKi_in _)).1 rfl ?_
    refine g_ireturn (ty := .int) rfl rfl rfl ?_
    rcases hx with ⟨y1, -⟩ | ⟨y1, -⟩ | ⟨-, rfl⟩
    · rw [x1] at y1
      exact absurd y1 (by decide)
    · rw [x1] at y1
      exact absurd y1 (by decide)
    · exact ⟨rfl, rfl⟩
theorem s_ho12_out {h : sHp} {s : Int32} (hH : bH h) (hR : bR5 h) (hs : ¬ (0 ≤ s.toInt ∧ s.toInt < 8)) : sDo 10 183 [.ref 60, .int s] h (fun r h' => r = some (.int (-1)) ∧ bR5 h') := by
  obtain ⟨fs, hf, -⟩ := bObj60 hH
  refine sDo_of (d := 9) (nL := 2) (L := [some (.ref 60), some (.int s)]) rfl rfl ?_
  refine g_aload_n (i := 0) rfl rfl ?_
  refine g_iload_n (i := 1) rfl rfl ?_
  refine g_virt1 (Qc := fun r h' => h' = h ∧ r = some (.int 0)) rfl (by decide) rfl hf rfl (Nat.le_of_ble_eq_true rfl) (s_sh12 (by rw [if_neg hs])) (fun r h9 hq9 => ?_)
  obtain ⟨rfl, rfl⟩ := hq9
  refine g_if_eq 17 rfl rfl (fun _ => ?_) (fun hc => absurd hc (by decide))
  refine g_iconst (n := (-1)) rfl ?_
  refine g_ireturn (ty := .int) rfl rfl rfl ?_
  exact ⟨rfl, hR⟩
theorem s_ho12_in {h : sHp} {hd so sz co : Nat → Int32} {cl : Nat → Int64} {f g : Nat → Option Nat} {s : Int32} {S : Nat} (hH : bH h) (q4 : bR4 h hd so sz co cl f g) (hR : bR5 h) (hs : s.toInt = S) (hS : S < 8) {x : Int32} (hx : (hd S = 0 ∧ x = -1) ∨ (hd S = 1 ∧ x = Int32.ofInt 10000 + so S) ∨ (hd S = 2 ∧ x = co S)) : sDo 10 183 [.ref 60, .int s] h (fun r h' => r = some (.int x) ∧ bR5 h') := by
  obtain ⟨a1, a2, a3, a4, a5, a6, a7, a8⟩ := q4
  obtain ⟨fs, hf, -⟩ := bObj60 hH
  obtain ⟨w14, f14, r14⟩ := bF60 hH hf (j := 14) (ty := .inr (2, 67)) (by decide +kernel)
  cases bT_one (by decide) (by decide +kernel) r14
  obtain ⟨w15, f15, r15⟩ := bF60 hH hf (j := 15) (ty := .inr (2, 68)) (by decide +kernel)
  cases bT_one (by decide) (by decide +kernel) r15
  obtain ⟨w16, f16, r16⟩ := bF60 hH hf (j := 16) (ty := .inr (2, 69)) (by decide +kernel)
  cases bT_one (by decide) (by decide +kernel) r16
  obtain ⟨w17, f17, r17⟩ := bF60 hH hf (j := 17) (ty := .inr (2, 70)) (by decide +kernel)
  cases bT_one (by decide) (by decide +kernel) r17
  obtain ⟨w18, f18, r18⟩ := bF60 hH hf (j := 18) (ty := .inr (2, 71)) (by decide +kernel)
  cases bT_one (by decide) (by decide +kernel) r18
  have sn : s.toNatClampNeg = S := i_nat hs
  refine sDo_of (d := 9) (nL := 2) (L := [some (.ref 60), some (.int s)]) rfl rfl ?_
  refine g_aload_n (i := 0) rfl rfl ?_
  refine g_iload_n (i := 1) rfl rfl ?_
  refine g_virt1 (Qc := fun r h' => h' = h ∧ r = some (.int 1)) rfl (by decide) rfl hf rfl (Nat.le_of_ble_eq_true rfl) (s_sh12 (by rw [if_pos (by omega)])) (fun r h9 hq9 => ?_)
  obtain ⟨rfl, rfl⟩ := hq9
  refine g_if_eq 17 rfl rfl (fun hc => absurd hc (by decide)) (fun _ => ?_)
  refine g_aload_n (i := 0) rfl rfl ?_
  refine g_getfield (v := .ref 67) rfl hf (by decide) f14 ?_
  refine g_iload_n (i := 1) rfl rfl ?_
  refine g_ialv (n := 8) (f := hd) (v := hd S) rfl a4 (i_in (by omega) (by omega)) (congrArg hd sn) ?_
  rcases hx with ⟨y1, rfl⟩ | ⟨y1, rfl⟩ | ⟨y1, rfl⟩
  · skip
    refine g_if_ne 19 rfl rfl (fun hc => absurd hc (by exact fun z => z y1)) (fun _ => ?_)
    refine g_iconst (n := (-1)) rfl ?_
    refine g_ireturn (ty := .int) rfl rfl rfl ?_
    exact ⟨rfl, hR⟩
  · skip
    refine g_if_ne 19 rfl rfl (fun _ => ?_) (fun hc => absurd hc (by rw [y1]; decide))
    refine g_aload_n (i := 0) rfl rfl ?_
    refine g_getfield (v := .ref 67) rfl hf (by decide) f14 ?_
    refine g_iload_n (i := 1) rfl rfl ?_
    refine g_ialv (n := 8) (f := hd) (v := hd S) rfl a4 (i_in (by omega) (by omega)) (congrArg hd sn) ?_
    refine g_iconst (n := 1) rfl ?_
    refine g_icmp_ne 42 rfl rfl (fun hc => absurd hc (by exact fun z => z y1)) (fun _ => ?_)
    refine g_sipush (n := 10000) rfl ?_
    refine g_aload_n (i := 0) rfl rfl ?_
    refine g_getfield (v := .ref 68) rfl hf (by decide) f15 ?_
    refine g_iload_n (i := 1) rfl rfl ?_
    refine g_ialv (n := 8) (f := so) (v := so S) rfl a5 (i_in (by omega) (by omega)) (congrArg so sn) ?_
    refine g_iadd rfl ?_
    refine g_goto 48 rfl rfl ?_
    refine g_ireturn (ty := .int) rfl rfl rfl ?_
    exact ⟨rfl, hR⟩
  · skip
    refine g_if_ne 19 rfl rfl (fun _ => ?_) (fun hc => absurd hc (by rw [y1]; decide))
    refine g_aload_n (i := 0) rfl rfl ?_
    refine g_getfield (v := .ref 67) rfl hf (by decide) f14 ?_
    refine g_iload_n (i := 1) rfl rfl ?_
    refine g_ialv (n := 8) (f := hd) (v := hd S) rfl a4 (i_in (by omega) (by omega)) (congrArg hd sn) ?_
    refine g_iconst (n := 1) rfl ?_
    refine g_icmp_ne 42 rfl rfl (fun _ => ?_) (fun hc => absurd hc (by rw [y1]; decide))
    refine g_aload_n (i := 0) rfl rfl ?_
    refine g_getfield (v := .ref 70) rfl hf (by decide) f17 ?_
    refine g_iload_n (i := 1) rfl rfl ?_
    refine g_ialv (n := 8) (f := co) (v := co S) rfl a7 (i_in (by omega) (by omega)) (congrArg co sn) ?_
    refine g_ireturn (ty := .int) rfl rfl rfl ?_
    exact ⟨rfl, hR⟩
theorem pr_holds (s : Int32) : bPair 119 183 [.int s] := by
  have c1 : ∀ h, bH h → sDo 10 119 (.ref 0 :: [.int s]) h (fun _ h' => bH h' ∧ h'.length ≤ h.length + 1) := fun h hH => pr_use ch_X11_holds_0 (by decide +kernel) (by decide +kernel) rfl hH ⟨bt0 hH, vI0 s, trivial⟩
  have c2 : ∀ h, bH h → sDo 10 183 (.ref 60 :: [.int s]) h (fun _ h' => bH h' ∧ h'.length ≤ h.length + 1) := fun h hH => pr_use ch_X12_holds_0 (by decide +kernel) (by decide +kernel) rfl hH ⟨bt60 hH, vI0 s, trivial⟩
  intro h hH hR
  by_cases hs : 0 ≤ s.toInt ∧ s.toInt < 8
  · obtain ⟨hd, so, sz, co, cl, f, g, q4, q5⟩ := hR
    have hR : bR5 h := ⟨hd, so, sz, co, cl, f, g, q4, q5⟩
    obtain ⟨S, hS⟩ : ∃ S : Nat, s.toInt = S := ⟨s.toInt.toNat, by omega⟩
    have hS8 : S < 8 := by omega
    obtain ⟨ot, z, el, b1, b2, b3⟩ := q5 S hS8
    have b3c := b3
    rcases b3 with ⟨x1, x2, x3⟩ | ⟨x1, x2, x3, x4, x5, x6, x7, x8, x9⟩ | ⟨x1, x2, pc, x3, x4, x5, x6, x7⟩
    · refine pair_case (x := .int (-1)) hH c1 c2 (s_ho11_in hH q4 hS hS8 b1 b2 b3c (Or.inl ⟨x1, rfl⟩)) (fun h1 hH1 hP => ?_)
      subst hP
      exact s_ho12_in hH1 q4 hR hS hS8 (Or.inl ⟨x1, rfl⟩)
    · refine pair_case (x := .int (Int32.ofInt 10000 + so S)) hH c1 c2 (s_ho11_in hH q4 hS hS8 b1 b2 b3c (Or.inr (Or.inl ⟨x1, rfl⟩))) (fun h1 hH1 hP => ?_)
      subst hP
      exact s_ho12_in hH1 q4 hR hS hS8 (Or.inr (Or.inl ⟨x1, rfl⟩))
    · refine pair_case (x := .int (co S)) hH c1 c2 (s_ho11_in hH q4 hS hS8 b1 b2 b3c (Or.inr (Or.inr ⟨x1, rfl⟩))) (fun h1 hH1 hP => ?_)
      subst hP
      exact s_ho12_in hH1 q4 hR hS hS8 (Or.inr (Or.inr ⟨x1, rfl⟩))
  · refine pair_case (x := .int (-1)) hH c1 c2 (s_ho11_out hH hs) (fun h1 hH1 hP => ?_)
    subst hP
    exact s_ho12_out hH1 hR hs
