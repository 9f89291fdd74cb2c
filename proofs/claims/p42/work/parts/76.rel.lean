/-! ===== the pair copy ===== -/
def eaOf (a b : Int32) : Int32 := if a = 0 then b else if b = 0 then a else if a < b then b else a
theorem s_earlier {d : Nat} {h : sHp} {a b : Int32} : sDo (d + 1) 159 [.int a, .int b] h (fun r h' => h' = h ∧ r = some (.int (eaOf a b))) := by
  refine sDo_of (d := d) (nL := 2) (L := [some (.int a), some (.int b)]) rfl rfl ?_
  unfold eaOf
  refine g_iload_n (i := 0) rfl rfl ?_
  refine g_if_ne 6 rfl rfl (fun c1 => ?_) (fun c1 => ?_)
  · skip
    replace c1 : ¬ a = 0 := c1
    rw [if_neg c1]
    refine g_iload_n (i := 1) rfl rfl ?_
    refine g_if_ne 14 rfl rfl (fun c2 => ?_) (fun c2 => ?_)
    · skip
      replace c2 : ¬ b = 0 := c2
      rw [if_neg c2]
      refine g_iload_n (i := 0) rfl rfl ?_
      refine g_iload_n (i := 1) rfl rfl ?_
      refine g_max rfl (Nat.le_of_ble_eq_true rfl) ?_
      refine g_ireturn (ty := .int) rfl rfl rfl ?_
      exact ⟨rfl, rfl⟩
    · skip
      rw [if_pos (show b = 0 from c2)]
      refine g_iload_n (i := 0) rfl rfl ?_
      refine g_goto 19 rfl rfl ?_
      refine g_ireturn (ty := .int) rfl rfl rfl ?_
      exact ⟨rfl, rfl⟩
  · skip
    rw [if_pos (show a = 0 from c1)]
    refine g_iload_n (i := 1) rfl rfl ?_
    refine g_ireturn (ty := .int) rfl rfl rfl ?_
    exact ⟨rfl, rfl⟩
theorem s_rangeE {d : Nat} {h : sHp} {rp ep : Nat} {ot a n sz b : Int32} (hp : h[rp]? = some (.inr (7, [.int ot, .int sz, .ref ep]))) (z0 : 0 ≤ sz.toInt) (z1 : sz.toInt ≤ 100) (hb : (0 ≤ a.toInt ∧ 0 ≤ n.toInt ∧ a.toInt + n.toInt ≤ sz.toInt ∧ b = 1) ∨ (¬ (0 ≤ a.toInt ∧ 0 ≤ n.toInt ∧ a.toInt + n.toInt ≤ sz.toInt) ∧ b = 0)) : sDo (d + 1) 83 [.ref rp, .int a, .int n] h (fun r h' => h' = h ∧ r = some (.int b)) := by
  have e0 : (0 : Int32).toInt = 0 := rfl
  have nf : n.toInt ≤ (2147483647 : Int) := (aFull_ok n).2
  refine sDo_of (d := d) (nL := 3) (L := [some (.ref rp), some (.int a), some (.int n)]) rfl rfl ?_
  refine g_iload_n (i := 1) rfl rfl ?_
  refine g_if_lt 22 rfl rfl (fun c1 => ?_) (fun c1 => ?_)
  · skip
    rw [i_lt, e0] at c1
    refine g_iconst (n := 0) rfl ?_
    refine g_ireturn (ty := .boolean) rfl rfl (by decide) ?_
    rcases hb with ⟨m1, m2, m3, rfl⟩ | ⟨hk, rfl⟩
    · exact absurd m1 (by omega)
    · exact ⟨rfl, rfl⟩
  · skip
    rw [i_lt, e0] at c1
    refine g_iload_n (i := 2) rfl rfl ?_
    refine g_if_lt 22 rfl rfl (fun c2 => ?_) (fun c2 => ?_)
    · skip
      rw [i_lt, e0] at c2
      refine g_iconst (n := 0) rfl ?_
      refine g_ireturn (ty := .boolean) rfl rfl (by decide) ?_
      rcases hb with ⟨m1, m2, m3, rfl⟩ | ⟨hk, rfl⟩
      · exact absurd m1 (by omega)
      · exact ⟨rfl, rfl⟩
    · skip
      rw [i_lt, e0] at c2
      have hs : (sz - n).toInt = sz.toInt - n.toInt := i_sub (by omega) (by omega)
      refine g_iload_n (i := 1) rfl rfl ?_
      refine g_aload_n (i := 0) rfl rfl ?_
      refine g_getfield (v := .int sz) rfl hp (by decide) rfl ?_
      refine g_iload_n (i := 2) rfl rfl ?_
      refine g_isub rfl ?_
      refine g_icmp_gt 22 rfl rfl (fun c3 => ?_) (fun c3 => ?_)
      · skip
        rw [i_lt, hs] at c3
        refine g_iconst (n := 0) rfl ?_
        refine g_ireturn (ty := .boolean) rfl rfl (by decide) ?_
        rcases hb with ⟨m1, m2, m3, rfl⟩ | ⟨hk, rfl⟩
        · exact absurd m1 (by omega)
        · exact ⟨rfl, rfl⟩
      · skip
        rw [i_lt, hs] at c3
        refine g_iconst (n := 1) rfl ?_
        refine g_goto 23 rfl rfl ?_
        refine g_ireturn (ty := .boolean) rfl rfl (by decide) ?_
        rcases hb with ⟨m1, m2, m3, rfl⟩ | ⟨hk, rfl⟩
        · exact ⟨rfl, rfl⟩
        · exact absurd ⟨by omega, by omega, by omega⟩ hk
theorem s_copy11_no {h : sHp} {p q i j n np nq x : Int32} (hH : bH h) (cp : sDo 2 161 [.ref 0, .int p] h (fun r h' => h' = h ∧ r = some (.int np))) (cq : sDo 2 161 [.ref 0, .int q] h (fun r h' => h' = h ∧ r = some (.int nq))) (hx : eaOf np nq = x) (hx0 : ¬ x = 0) (k1 : -7 ≤ x.toInt) (k2 : x.toInt ≤ -1) : sDo 10 116 [.ref 0, .int p, .int q, .int i, .int j, .int n] h (fun r h' => r = some (.int x) ∧ pRef h h') := by
  obtain ⟨fs, hf, -⟩ := bFldK hH (p := 0) (by decide) rfl
  refine sDo_of (d := 9) (nL := 7) (L := [some (.ref 0), some (.int p), some (.int q), some (.int i), some (.int j), some (.int n), none]) rfl rfl ?_
  refine g_aload_n (i := 0) rfl rfl ?_
  refine g_iload_n (i := 1) rfl rfl ?_
  refine g_virt1 (Qc := fun r h' => h' = h ∧ r = some (.int np)) rfl (by decide) rfl hf rfl (Nat.le_of_ble_eq_true rfl) (sDo_up (d := 2) (by decide) cp) (fun r h9 hq9 => ?_)
  obtain ⟨rfl, rfl⟩ := hq9
  refine g_aload_n (i := 0) rfl rfl ?_
  refine g_iload_n (i := 2) rfl rfl ?_
  refine g_virt1 (Qc := fun r h' => h' = h9 ∧ r = some (.int nq)) rfl (by decide) rfl hf rfl (Nat.le_of_ble_eq_true rfl) (sDo_up (d := 2) (by decide) cq) (fun r h8 hq9 => ?_)
  obtain ⟨rfl, rfl⟩ := hq9
  refine g_static2 (Qc := fun r h' => h' = h8 ∧ r = some (.int x)) rfl (by decide) rfl (Nat.le_of_ble_eq_true rfl) (sDo_mono (s_earlier (a := np) (b := nq)) (fun r h' q => by rw [← hx]; exact q)) (fun r h7 hq9 => ?_)
  obtain ⟨rfl, rfl⟩ := hq9
  refine g_istore (i := 6) (L1 := [some (.ref 0), some (.int p), some (.int q), some (.int i), some (.int j), some (.int n), some (.int x)]) rfl (Nat.le_of_ble_eq_true rfl) rfl ?_
  refine g_iload (i := 6) rfl rfl ?_
  refine g_if_eq 27 rfl rfl (fun hc => absurd hc (by exact hx0)) (fun _ => ?_)
  refine g_aload_n (i := 0) rfl rfl ?_
  refine g_iload (i := 6) rfl rfl ?_
  refine g_virt1 (Qc := fun r h' => r = some (.int (x)) ∧ ∃ R, h' = List.set h7 43 (.inl (0, 8, .inl R))) rfl (by decide) rfl hf rfl (Nat.le_of_ble_eq_true rfl) (sDo_up (d := 2) (by decide) (s_rfus (d := 0) hH k1 k2)) (fun r h6 hq9 => ?_)
  obtain ⟨rfl, hR⟩ := hq9
  refine g_ireturn (ty := .int) rfl rfl rfl ?_
  exact ⟨rfl, hR⟩
theorem bSh_1 {hd so sz co : Nat → Int32} {cl : Nat → Int64} {g : Nat → Option Nat} {h : sHp} {s : Nat} {ot z : Int32} {el : Nat → Int64} (b3 : bSh hd so sz co cl g h s ot z el) (h1 : hd s = 1) : ot = so s ∧ z = sz s ∧ 0 ≤ z.toInt ∧ z.toInt ≤ 100 ∧ (∀ i : Nat, (i : Int) < z.toInt → el i = cl (100 * s + i)) ∧ nrOf hd s = 0 := by
  have hn : nrOf hd s = 0 := by
    unfold nrOf
    rw [if_pos h1]
  rcases b3 with ⟨y1, -⟩ | ⟨-, -, y3, -, -, y6, y7, y8, y9⟩ | ⟨y1, -⟩
  · rw [h1] at y1
    exact absurd y1 (by decide)
  · exact ⟨y3, y6, y7, y8, y9, hn⟩
  · rw [h1] at y1
    exact absurd y1 (by decide)
theorem s_copy11_in {h : sHp} {hd so sz co : Nat → Int32} {cl : Nat → Int64} {f g : Nat → Option Nat} {p q i j n : Int32} {P Q : Nat} {op zp oq zq : Int32} {elp elq : Nat → Int64} (hH : bH h) (q4 : bR4 h hd so sz co cl f g) (hp : p.toInt = P) (hP : P < 8) (hq : q.toInt = Q) (hQ : Q < 8) (b1 : h[44 + 2 * P]? = some (.inr (7, [.int op, .int zp, .ref (45 + 2 * P)]))) (b2 : h[45 + 2 * P]? = some (.inl (1, 100, .inr (.inl elp)))) (b3 : bSh hd so sz co cl g h P op zp elp) (d1 : h[44 + 2 * Q]? = some (.inr (7, [.int oq, .int zq, .ref (45 + 2 * Q)]))) (d2 : h[45 + 2 * Q]? = some (.inl (1, 100, .inr (.inl elq)))) (d3 : bSh hd so sz co cl g h Q oq zq elq) (h1 : hd P = 1) (h2 : hd Q = 1) {x : Int32} {R : sHp → Prop} (hx : (¬ op = oq ∧ x = -2 ∧ R = pRef h) ∨ (op = oq ∧ n.toInt < 0 ∧ x = -4 ∧ R = pRef h) ∨ (op = oq ∧ 0 ≤ n.toInt ∧ ¬ (0 ≤ i.toInt ∧ 0 ≤ j.toInt ∧ i.toInt + n.toInt ≤ zp.toInt ∧ j.toInt + n.toInt ≤ zq.toInt) ∧ x = -5 ∧ R = pRef h) ∨ (op = oq ∧ 0 ≤ n.toInt ∧ 0 ≤ i.toInt ∧ 0 ≤ j.toInt ∧ i.toInt + n.toInt ≤ zp.toInt ∧ j.toInt + n.toInt ≤ zq.toInt ∧ x = 1 ∧ R = fun h' => h' = h.set (45 + 2 * Q) (.inl (1, 100, .inr (.inl (va_cpy elp elq i.toNatClampNeg j.toNatClampNeg n.toNatClampNeg)))))) : sDo 10 116 [.ref 0, .int p, .int q, .int i, .int j, .int n] h (fun r h' => r = some (.int x) ∧ R h') := by
  have q4c := q4
  obtain ⟨-, -, zp0, zp1, -, np⟩ := bSh_1 b3 h1
  obtain ⟨-, -, zq0, zq1, -, nq⟩ := bSh_1 d3 h2
  obtain ⟨a1, a2, a3, a4, a5, a6, a7, a8⟩ := q4
  obtain ⟨fs, hf, -, hfs⟩ := bFldK hH (p := 0) (by decide) rfl
  obtain ⟨v0, f0, r0⟩ := hfs 0 _ rfl
  cases bT_one (by decide) (by decide +kernel) r0
  have fP : va_rf (f p.toNatClampNeg) = .ref (44 + 2 * P) := by rw [i_nat hp, a2 P hP]; rfl
  have fQ : va_rf (f q.toNatClampNeg) = .ref (44 + 2 * Q) := by rw [i_nat hq, a2 Q hQ]; rfl
  have e0 : (0 : Int32).toInt = 0 := rfl
  refine sDo_of (d := 9) (nL := 7) (L := [some (.ref 0), some (.int p), some (.int q), some (.int i), some (.int j), some (.int n), none]) rfl rfl ?_
  refine g_aload_n (i := 0) rfl rfl ?_
  refine g_iload_n (i := 1) rfl rfl ?_
  refine g_virt1 (Qc := fun r h' => h' = h ∧ r = some (.int 0)) rfl (by decide) rfl hf rfl (Nat.le_of_ble_eq_true rfl) (sDo_mono (sDo_up (d := 2) (by decide) (s_noIn (d := 0) hH q4c hp hP b1 b3)) (fun r h' q => by rw [← np]; exact q)) (fun r h9 hq9 => ?_)
  obtain ⟨rfl, rfl⟩ := hq9
  refine g_aload_n (i := 0) rfl rfl ?_
  refine g_iload_n (i := 2) rfl rfl ?_
  refine g_virt1 (Qc := fun r h' => h' = h9 ∧ r = some (.int 0)) rfl (by decide) rfl hf rfl (Nat.le_of_ble_eq_true rfl) (sDo_mono (sDo_up (d := 2) (by decide) (s_noIn (d := 0) hH q4c hq hQ d1 d3)) (fun r h' q => by rw [← nq]; exact q)) (fun r h8 hq9 => ?_)
  obtain ⟨rfl, rfl⟩ := hq9
  refine g_static2 (Qc := fun r h' => h' = h8 ∧ r = some (.int 0)) rfl (by decide) rfl (Nat.le_of_ble_eq_true rfl) (sDo_mono (s_earlier (a := 0) (b := 0)) (fun r h' q => q)) (fun r h7 hq9 => ?_)
  obtain ⟨rfl, rfl⟩ := hq9
  refine g_istore (i := 6) (L1 := [some (.ref 0), some (.int p), some (.int q), some (.int i), some (.int j), some (.int n), some (.int 0)]) rfl (Nat.le_of_ble_eq_true rfl) rfl ?_
  refine g_iload (i := 6) rfl rfl ?_
  refine g_if_eq 27 rfl rfl (fun _ => ?_) (fun hc => absurd hc (by exact fun z => z rfl))
  refine g_aload_n (i := 0) rfl rfl ?_
  refine g_getfield (v := .ref 1) rfl hf (by decide) f0 ?_
  refine g_iload_n (i := 1) rfl rfl ?_
  refine g_aaload rfl a1 (by decide) (i_in (by omega) (by omega)) ?_
  rw [fP]
  refine g_getfield (v := .int op) rfl b1 (by decide) rfl ?_
  refine g_aload_n (i := 0) rfl rfl ?_
  refine g_getfield (v := .ref 1) rfl hf (by decide) f0 ?_
  refine g_iload_n (i := 2) rfl rfl ?_
  refine g_aaload rfl a1 (by decide) (i_in (by omega) (by omega)) ?_
  rw [fQ]
  refine g_getfield (v := .int oq) rfl d1 (by decide) rfl ?_
  rcases hx with ⟨ho, rfl, rfl⟩ | ⟨ho, hn, rfl, rfl⟩ | ⟨ho, hn, hr, rfl, rfl⟩ | ⟨ho, hn, i0, j0, i1, j1, rfl, rfl⟩
  · skip
    refine g_icmp_eq 55 rfl rfl (fun hc => absurd hc (by exact ho)) (fun _ => ?_)
    refine g_aload_n (i := 0) rfl rfl ?_
    refine g_bipush (n := (-2)) rfl ?_
    refine g_virt1 (Qc := fun r h' => r = some (.int (-2)) ∧ ∃ R, h' = List.set h7 43 (.inl (0, 8, .inl R))) rfl (by decide) rfl hf rfl (Nat.le_of_ble_eq_true rfl) (sDo_up (d := 2) (by decide) (s_rfus (d := 0) hH (by decide) (by decide))) (fun r h6 hq9 => ?_)
    obtain ⟨rfl, hR⟩ := hq9
    refine g_ireturn (ty := .int) rfl rfl rfl ?_
    exact ⟨rfl, hR⟩
  · skip
    refine g_icmp_eq 55 rfl rfl (fun _ => ?_) (fun hc => absurd hc (by exact fun z => z ho))
    refine g_iload (i := 5) rfl rfl ?_
    refine g_if_ge 67 rfl rfl (fun hc => absurd hc (by rw [i_le, e0]; omega)) (fun _ => ?_)
    refine g_aload_n (i := 0) rfl rfl ?_
    refine g_bipush (n := (-4)) rfl ?_
    refine g_virt1 (Qc := fun r h' => r = some (.int (-4)) ∧ ∃ R, h' = List.set h7 43 (.inl (0, 8, .inl R))) rfl (by decide) rfl hf rfl (Nat.le_of_ble_eq_true rfl) (sDo_up (d := 2) (by decide) (s_rfus (d := 0) hH (by decide) (by decide))) (fun r h6 hq9 => ?_)
    obtain ⟨rfl, hR⟩ := hq9
    refine g_ireturn (ty := .int) rfl rfl rfl ?_
    exact ⟨rfl, hR⟩
  · skip
    refine g_icmp_eq 55 rfl rfl (fun _ => ?_) (fun hc => absurd hc (by exact fun z => z ho))
    refine g_iload (i := 5) rfl rfl ?_
    refine g_if_ge 67 rfl rfl (fun _ => ?_) (fun hc => absurd hc (by rw [i_le, e0]; omega))
    refine g_aload_n (i := 0) rfl rfl ?_
    refine g_getfield (v := .ref 1) rfl hf (by decide) f0 ?_
    refine g_iload_n (i := 1) rfl rfl ?_
    refine g_aaload rfl a1 (by decide) (i_in (by omega) (by omega)) ?_
    rw [fP]
    refine g_iload_n (i := 3) rfl rfl ?_
    refine g_iload (i := 5) rfl rfl ?_
    by_cases hp1 : 0 ≤ i.toInt ∧ 0 ≤ n.toInt ∧ i.toInt + n.toInt ≤ zp.toInt
    · skip
      refine g_virt2 (Qc := fun r h' => h' = h7 ∧ r = some (.int 1)) rfl (by decide) rfl b1 rfl (Nat.le_of_ble_eq_true rfl) (s_rangeE (b := 1) b1 zp0 zp1 (Or.inl ⟨hp1.1, hp1.2.1, hp1.2.2, rfl⟩)) (fun r h6 hq9 => ?_)
      obtain ⟨rfl, rfl⟩ := hq9
      refine g_if_eq 98 rfl rfl (fun hc => absurd hc (by decide)) (fun _ => ?_)
      refine g_aload_n (i := 0) rfl rfl ?_
      refine g_getfield (v := .ref 1) rfl hf (by decide) f0 ?_
      refine g_iload_n (i := 2) rfl rfl ?_
      refine g_aaload rfl a1 (by decide) (i_in (by omega) (by omega)) ?_
      rw [fQ]
      refine g_iload (i := 4) rfl rfl ?_
      refine g_iload (i := 5) rfl rfl ?_
      refine g_virt2 (Qc := fun r h' => h' = h6 ∧ r = some (.int 0)) rfl (by decide) rfl d1 rfl (Nat.le_of_ble_eq_true rfl) (s_rangeE (b := 0) d1 zq0 zq1 (Or.inr ⟨by omega, rfl⟩)) (fun r h5 hq9 => ?_)
      obtain ⟨rfl, rfl⟩ := hq9
      refine g_if_ne 105 rfl rfl (fun hc => absurd hc (by decide)) (fun _ => ?_)
      refine g_aload_n (i := 0) rfl rfl ?_
      refine g_bipush (n := (-5)) rfl ?_
      refine g_virt1 (Qc := fun r h' => r = some (.int (-5)) ∧ ∃ R, h' = List.set h5 43 (.inl (0, 8, .inl R))) rfl (by decide) rfl hf rfl (Nat.le_of_ble_eq_true rfl) (sDo_up (d := 2) (by decide) (s_rfus (d := 0) hH (by decide) (by decide))) (fun r h4 hq9 => ?_)
      obtain ⟨rfl, hR⟩ := hq9
      refine g_ireturn (ty := .int) rfl rfl rfl ?_
      exact ⟨rfl, hR⟩
    · skip
      refine g_virt2 (Qc := fun r h' => h' = h7 ∧ r = some (.int 0)) rfl (by decide) rfl b1 rfl (Nat.le_of_ble_eq_true rfl) (s_rangeE (b := 0) b1 zp0 zp1 (Or.inr ⟨hp1, rfl⟩)) (fun r h6 hq9 => ?_)
      obtain ⟨rfl, rfl⟩ := hq9
      refine g_if_eq 98 rfl rfl (fun _ => ?_) (fun hc => absurd hc (by decide))
      refine g_aload_n (i := 0) rfl rfl ?_
      refine g_bipush (n := (-5)) rfl ?_
      refine g_virt1 (Qc := fun r h' => r = some (.int (-5)) ∧ ∃ R, h' = List.set h6 43 (.inl (0, 8, .inl R))) rfl (by decide) rfl hf rfl (Nat.le_of_ble_eq_true rfl) (sDo_up (d := 2) (by decide) (s_rfus (d := 0) hH (by decide) (by decide))) (fun r h5 hq9 => ?_)
      obtain ⟨rfl, hR⟩ := hq9
      refine g_ireturn (ty := .int) rfl rfl rfl ?_
      exact ⟨rfl, hR⟩
  · skip
    refine g_icmp_eq 55 rfl rfl (fun _ => ?_) (fun hc => absurd hc (by exact fun z => z ho))
    refine g_iload (i := 5) rfl rfl ?_
    refine g_if_ge 67 rfl rfl (fun _ => ?_) (fun hc => absurd hc (by rw [i_le, e0]; omega))
    refine g_aload_n (i := 0) rfl rfl ?_
    refine g_getfield (v := .ref 1) rfl hf (by decide) f0 ?_
    refine g_iload_n (i := 1) rfl rfl ?_
    refine g_aaload rfl a1 (by decide) (i_in (by omega) (by omega)) ?_
    rw [fP]
    refine g_iload_n (i := 3) rfl rfl ?_
    refine g_iload (i := 5) rfl rfl ?_
    refine g_virt2 (Qc := fun r h' => h' = h7 ∧ r = some (.int 1)) rfl (by decide) rfl b1 rfl (Nat.le_of_ble_eq_true rfl) (s_rangeE (b := 1) b1 zp0 zp1 (Or.inl ⟨i0, hn, i1, rfl⟩)) (fun r h6 hq9 => ?_)
    obtain ⟨rfl, rfl⟩ := hq9
    refine g_if_eq 98 rfl rfl (fun hc => absurd hc (by decide)) (fun _ => ?_)
    refine g_aload_n (i := 0) rfl rfl ?_
    refine g_getfield (v := .ref 1) rfl hf (by decide) f0 ?_
    refine g_iload_n (i := 2) rfl rfl ?_
    refine g_aaload rfl a1 (by decide) (i_in (by omega) (by omega)) ?_
    rw [fQ]
    refine g_iload (i := 4) rfl rfl ?_
    refine g_iload (i := 5) rfl rfl ?_
    refine g_virt2 (Qc := fun r h' => h' = h6 ∧ r = some (.int 1)) rfl (by decide) rfl d1 rfl (Nat.le_of_ble_eq_true rfl) (s_rangeE (b := 1) d1 zq0 zq1 (Or.inl ⟨j0, hn, j1, rfl⟩)) (fun r h5 hq9 => ?_)
    obtain ⟨rfl, rfl⟩ := hq9
    refine g_if_ne 105 rfl rfl (fun _ => ?_) (fun hc => absurd hc (by decide))
    refine g_aload_n (i := 0) rfl rfl ?_
    refine g_getfield (v := .ref 1) rfl hf (by decide) f0 ?_
    refine g_iload_n (i := 1) rfl rfl ?_
    refine g_aaload rfl a1 (by decide) (i_in (by omega) (by omega)) ?_
    rw [fP]
    refine g_getfield (v := .ref (45 + 2 * P)) rfl b1 (by decide) rfl ?_
    refine g_iload_n (i := 3) rfl rfl ?_
    refine g_aload_n (i := 0) rfl rfl ?_
    refine g_getfield (v := .ref 1) rfl hf (by decide) f0 ?_
    refine g_iload_n (i := 2) rfl rfl ?_
    refine g_aaload rfl a1 (by decide) (i_in (by omega) (by omega)) ?_
    rw [fQ]
    refine g_getfield (v := .ref (45 + 2 * Q)) rfl d1 (by decide) rfl ?_
    refine g_iload (i := 4) rfl rfl ?_
    refine g_iload (i := 5) rfl rfl ?_
    have in_ : (i.toNatClampNeg : Int) = i.toInt := by
      show ((i.toInt.toNat : Nat) : Int) = i.toInt
      omega
    have jn : (j.toNatClampNeg : Int) = j.toInt := by
      show ((j.toInt.toNat : Nat) : Int) = j.toInt
      omega
    have nn : (n.toNatClampNeg : Int) = n.toInt := by
      show ((n.toInt.toNat : Nat) : Int) = n.toInt
      omega
    refine go_heap (st1 := []) (h1 := h5.set (45 + 2 * Q) (.inl (1, 100, .inr (.inl (va_cpy elp elq i.toNatClampNeg j.toNatClampNeg n.toNatClampNeg))))) (ins := .invokestatic 1003) rfl rfl rfl ?_ ?_
    · show sCpy [.int n, .int j, .ref (45 + 2 * Q), .int i, .ref (45 + 2 * P)] h5 = _
      unfold sCpy
      dsimp only
      rw [b2, d2]
      have hcc : ¬ i < 0 ∧ ¬ j < 0 ∧ ¬ n < 0 ∧ i.toNatClampNeg + n.toNatClampNeg ≤ 100 ∧ j.toNatClampNeg + n.toNatClampNeg ≤ 100 := by
        rw [i_lt, i_lt, i_lt, e0]
        exact ⟨by omega, by omega, by omega, by omega, by omega⟩
      exact if_pos hcc
    · skip
      refine g_iconst (n := 1) rfl ?_
      refine g_ireturn (ty := .int) rfl rfl rfl ?_
      exact ⟨rfl, rfl⟩
def yp1 (t0 cl : Nat → Int64) (A K : Nat) : Nat → Int64 := fun x => if x < K then cl (A + x) else t0 x
theorem yp1_0 (t0 cl : Nat → Int64) (A : Nat) : yp1 t0 cl A 0 = t0 := funext fun x => if_neg (Nat.not_lt_zero x)
theorem yp1_s (t0 cl : Nat → Int64) (A K : Nat) : vp_updL (yp1 t0 cl A K) K (cl (A + K)) = yp1 t0 cl A (K + 1) := funext fun x => by
  unfold vp_updL yp1
  by_cases h : x = K
  · rw [if_pos h, if_pos (show x < K + 1 by omega), h]
  · rw [if_neg h]
    by_cases h2 : x < K
    · rw [if_pos h2, if_pos (show x < K + 1 by omega)]
    · rw [if_neg h2, if_neg (show ¬ x < K + 1 by omega)]
def yp2 (cl T : Nat → Int64) (B K : Nat) : Nat → Int64 := fun x => if B ≤ x ∧ x < B + K then T (x - B) else cl x
theorem yp2_0 (cl T : Nat → Int64) (B : Nat) : yp2 cl T B 0 = cl := funext fun x => if_neg (show ¬ (B ≤ x ∧ x < B + 0) by omega)
theorem yp2_s (cl T : Nat → Int64) (B K : Nat) : vp_updL (yp2 cl T B K) (B + K) (T K) = yp2 cl T B (K + 1) := funext fun x => by
  unfold vp_updL yp2
  by_cases h : x = B + K
  · rw [if_pos h, if_pos (show B ≤ x ∧ x < B + (K + 1) by omega), h, Nat.add_sub_cancel_left]
  · rw [if_neg h]
    by_cases h2 : B ≤ x ∧ x < B + K
    · rw [if_pos h2, if_pos (show B ≤ x ∧ x < B + (K + 1) by omega)]
    · rw [if_neg h2, if_neg (show ¬ (B ≤ x ∧ x < B + (K + 1)) by omega)]
theorem s_cp1_go {d : Nat} {h : sHp} {p q i j n : Int32} {P I N0 : Nat} {fs : List Value} {cl t0 : Nat → Int64} {Q : Option Value → sHp → Prop} (hf : h[60]? = some (.inr (12, fs))) (f18 : fs[18]? = some (.ref 71)) (f19 : fs[19]? = some (.ref 72)) (a8 : h[71]? = some (.inl (1, 800, .inr (.inl cl)))) (a9 : h[72]? = some (.inl (1, 100, .inr (.inl t0)))) (hp : p.toInt = P) (hi : i.toInt = I) (hn : n.toInt = N0) (hP : P < 8) (hI : I + N0 ≤ 100) (hQ : ∀ k : Int32, sGo none 180 d 201 [some (.ref 60), some (.int p), some (.int q), some (.int i), some (.int j), some (.int n), some (.int k)] [] (h.set 72 (.inl (1, 100, .inr (.inl (yp1 t0 cl (100 * P + I) N0))))) Q) : ∀ (N : Nat) (k : Int32) (K : Nat), k.toInt = K → K ≤ N0 → N0 - K < N → sGo none 180 d 167 [some (.ref 60), some (.int p), some (.int q), some (.int i), some (.int j), some (.int n), some (.int k)] [] (h.set 72 (.inl (1, 100, .inr (.inl (yp1 t0 cl (100 * P + I) K))))) Q := by
  intro N
  induction N with
  | zero => intro k K _ _ hl; omega
  | succ N ih =>
    intro k K hk hK hl
    have e1 : (Int32.ofInt 1).toInt = 1 := rfl
    have e100 : (Int8.ofInt 100).toInt32.toInt = 100 := rfl
    have hf2 : (h.set 72 (.inl (1, 100, .inr (.inl (yp1 t0 cl (100 * P + I) K)))))[60]? = some (.inr (12, fs)) := by rw [s_set_ne (by decide)]; exact hf
    have m1 : ((Int8.ofInt 100).toInt32 * p).toInt = 100 * P := by rw [i_mul (by rw [e100]; omega) (by rw [e100]; omega), e100, hp]
    refine g_iload (i := 6) rfl rfl ?_
    refine g_iload (i := 5) rfl rfl ?_
    refine g_icmp_ge 201 rfl rfl (fun hc => ?_) (fun hc => ?_)
    · skip
      rw [i_le, hn, hk] at hc
      have : K = N0 := by omega
      subst this
      exact hQ k
    · skip
      rw [i_le, hn, hk] at hc
      have m2 : ((Int8.ofInt 100).toInt32 * p + i).toInt = 100 * P + I := by rw [i_add (by rw [m1]; omega) (by rw [m1]; omega), m1, hi]
      have m3 : ((Int8.ofInt 100).toInt32 * p + i + k).toInt = ((100 * P + I + K : Nat) : Int) := by rw [i_add (by rw [m2]; omega) (by rw [m2]; omega), m2]; omega
      refine g_aload_n (i := 0) rfl rfl ?_
      refine g_getfield (v := .ref 72) rfl hf2 (by decide) f19 ?_
      refine g_iload (i := 6) rfl rfl ?_
      refine g_aload_n (i := 0) rfl rfl ?_
      refine g_getfield (v := .ref 71) rfl hf2 (by decide) f18 ?_
      refine g_bipush (n := 100) rfl ?_
      refine g_iload_n (i := 1) rfl rfl ?_
      refine g_imul rfl ?_
      refine g_iload_n (i := 3) rfl rfl ?_
      refine g_iadd rfl ?_
      refine g_iload (i := 6) rfl rfl ?_
      refine g_iadd rfl ?_
      refine g_laload (n := 800) (f := cl) rfl (by rw [s_set_ne (by decide)]; exact a8) (i_in (by omega) (by omega)) ?_
      rw [i_nat m3]
      refine g_lastore (h1 := h.set 72 (.inl (1, 100, .inr (.inl (yp1 t0 cl (100 * P + I) (K + 1)))))) rfl (s_set_eq a9) (i_in (by omega) (by omega)) (by rw [i_nat hk, List.set_set]; exact congrArg (fun e => h.set 72 (.inl (1, 100, .inr (.inl e)))) (yp1_s t0 cl _ K)) ?_
      refine g_iinc (i := 6) (L1 := [some (.ref 60), some (.int p), some (.int q), some (.int i), some (.int j), some (.int n), some (.int (k + Int32.ofInt 1))]) rfl rfl rfl ?_
      refine g_goto 167 rfl rfl ?_
      exact ih _ (K + 1) (by rw [i_add (by omega) (by omega)]; omega) (by omega) (by omega)
theorem s_cp2_go {d : Nat} {h : sHp} {p q i j n : Int32} {Q1 J N0 : Nat} {fs : List Value} {cl T : Nat → Int64} {Q : Option Value → sHp → Prop} (hf : h[60]? = some (.inr (12, fs))) (f18 : fs[18]? = some (.ref 71)) (f19 : fs[19]? = some (.ref 72)) (a8 : h[71]? = some (.inl (1, 800, .inr (.inl cl)))) (a9 : h[72]? = some (.inl (1, 100, .inr (.inl T)))) (hq : q.toInt = Q1) (hj : j.toInt = J) (hn : n.toInt = N0) (hQ1 : Q1 < 8) (hJ : J + N0 ≤ 100) (hQ : Q (some (.int 1)) (h.set 71 (.inl (1, 800, .inr (.inl (yp2 cl T (100 * Q1 + J) N0)))))) : ∀ (N : Nat) (k : Int32) (K : Nat), k.toInt = K → K ≤ N0 → N0 - K < N → sGo none 180 d 204 [some (.ref 60), some (.int p), some (.int q), some (.int i), some (.int j), some (.int n), some (.int k)] [] (h.set 71 (.inl (1, 800, .inr (.inl (yp2 cl T (100 * Q1 + J) K))))) Q := by
  intro N
  induction N with
  | zero => intro k K _ _ hl; omega
  | succ N ih =>
    intro k K hk hK hl
    have e1 : (Int32.ofInt 1).toInt = 1 := rfl
    have e100 : (Int8.ofInt 100).toInt32.toInt = 100 := rfl
    have hf2 : (h.set 71 (.inl (1, 800, .inr (.inl (yp2 cl T (100 * Q1 + J) K)))))[60]? = some (.inr (12, fs)) := by rw [s_set_ne (by decide)]; exact hf
    have m1 : ((Int8.ofInt 100).toInt32 * q).toInt = 100 * Q1 := by rw [i_mul (by rw [e100]; omega) (by rw [e100]; omega), e100, hq]
    refine g_iload (i := 6) rfl rfl ?_
    refine g_iload (i := 5) rfl rfl ?_
    refine g_icmp_ge 239 rfl rfl (fun hc => ?_) (fun hc => ?_)
    · skip
      rw [i_le, hn, hk] at hc
      have : K = N0 := by omega
      subst this
      refine g_iconst (n := 1) rfl ?_
      refine g_ireturn (ty := .int) rfl rfl rfl ?_
      exact hQ
    · skip
      rw [i_le, hn, hk] at hc
      have m2 : ((Int8.ofInt 100).toInt32 * q + j).toInt = 100 * Q1 + J := by rw [i_add (by rw [m1]; omega) (by rw [m1]; omega), m1, hj]
      have m3 : ((Int8.ofInt 100).toInt32 * q + j + k).toInt = ((100 * Q1 + J + K : Nat) : Int) := by rw [i_add (by rw [m2]; omega) (by rw [m2]; omega), m2]; omega
      refine g_aload_n (i := 0) rfl rfl ?_
      refine g_getfield (v := .ref 71) rfl hf2 (by decide) f18 ?_
      refine g_bipush (n := 100) rfl ?_
      refine g_iload_n (i := 2) rfl rfl ?_
      refine g_imul rfl ?_
      refine g_iload (i := 4) rfl rfl ?_
      refine g_iadd rfl ?_
      refine g_iload (i := 6) rfl rfl ?_
      refine g_iadd rfl ?_
      refine g_aload_n (i := 0) rfl rfl ?_
      refine g_getfield (v := .ref 72) rfl hf2 (by decide) f19 ?_
      refine g_iload (i := 6) rfl rfl ?_
      refine g_laload (n := 100) (f := T) rfl (by rw [s_set_ne (by decide)]; exact a9) (i_in (by omega) (by omega)) ?_
      rw [i_nat hk]
      refine g_lastore (h1 := h.set 71 (.inl (1, 800, .inr (.inl (yp2 cl T (100 * Q1 + J) (K + 1)))))) rfl (s_set_eq a8) (i_in (by omega) (by omega)) (by rw [i_nat m3, List.set_set]; exact congrArg (fun e => h.set 71 (.inl (1, 800, .inr (.inl e)))) (yp2_s cl T _ K)) ?_
      refine g_iinc (i := 6) (L1 := [some (.ref 60), some (.int p), some (.int q), some (.int i), some (.int j), some (.int n), some (.int (k + Int32.ofInt 1))]) rfl rfl rfl ?_
      refine g_goto 204 rfl rfl ?_
      exact ih _ (K + 1) (by rw [i_add (by omega) (by omega)]; omega) (by omega) (by omega)
theorem s_copy12_out {h : sHp} {p q i j n : Int32} (hH : bH h) (hR : bR5 h) (hs : ¬ ((0 ≤ p.toInt ∧ p.toInt < 8) ∧ (0 ≤ q.toInt ∧ q.toInt < 8))) : sDo 10 180 [.ref 60, .int p, .int q, .int i, .int j, .int n] h (fun r h' => r = some (.int (-1)) ∧ bR5 h') := by
  obtain ⟨fs, hf, -⟩ := bObj60 hH
  refine sDo_of (d := 9) (nL := 7) (L := [some (.ref 60), some (.int p), some (.int q), some (.int i), some (.int j), some (.int n), none]) rfl rfl ?_
  by_cases hp : 0 ≤ p.toInt ∧ p.toInt < 8
  · skip
    refine g_aload_n (i := 0) rfl rfl ?_
    refine g_iload_n (i := 1) rfl rfl ?_
    refine g_virt1 (Qc := fun r h' => h' = h ∧ r = some (.int 1)) rfl (by decide) rfl hf rfl (Nat.le_of_ble_eq_true rfl) (s_sh12 (by rw [if_pos hp])) (fun r h9 hq9 => ?_)
    obtain ⟨rfl, rfl⟩ := hq9
    refine g_if_eq 16 rfl rfl (fun hc => absurd hc (by decide)) (fun _ => ?_)
    refine g_aload_n (i := 0) rfl rfl ?_
    refine g_iload_n (i := 2) rfl rfl ?_
    refine g_virt1 (Qc := fun r h' => h' = h9 ∧ r = some (.int 0)) rfl (by decide) rfl hf rfl (Nat.le_of_ble_eq_true rfl) (s_sh12 (by rw [if_neg (fun z => hs ⟨hp, z⟩)])) (fun r h8 hq9 => ?_)
    obtain ⟨rfl, rfl⟩ := hq9
    refine g_if_ne 22 rfl rfl (fun hc => absurd hc (by decide)) (fun _ => ?_)
    refine g_aload_n (i := 0) rfl rfl ?_
    refine g_iconst (n := (-1)) rfl ?_
    refine g_virt1 (Qc := fun r h' => r = some (.int (-1)) ∧ ∃ R, h' = List.set h8 61 (.inl (0, 8, .inl R))) rfl (by decide) rfl hf rfl (Nat.le_of_ble_eq_true rfl) (sDo_up (d := 1) (by decide) (s_no (d := 0) hH (by decide) (by decide))) (fun r h7 hq9 => ?_)
    obtain ⟨rfl, R, rfl⟩ := hq9
    refine g_ireturn (ty := .int) rfl rfl rfl ?_
    exact ⟨rfl, no_R hR⟩
  · skip
    refine g_aload_n (i := 0) rfl rfl ?_
    refine g_iload_n (i := 1) rfl rfl ?_
    refine g_virt1 (Qc := fun r h' => h' = h ∧ r = some (.int 0)) rfl (by decide) rfl hf rfl (Nat.le_of_ble_eq_true rfl) (s_sh12 (by rw [if_neg hp])) (fun r h9 hq9 => ?_)
    obtain ⟨rfl, rfl⟩ := hq9
    refine g_if_eq 16 rfl rfl (fun _ => ?_) (fun hc => absurd hc (by decide))
    refine g_aload_n (i := 0) rfl rfl ?_
    refine g_iconst (n := (-1)) rfl ?_
    refine g_virt1 (Qc := fun r h' => r = some (.int (-1)) ∧ ∃ R, h' = List.set h9 61 (.inl (0, 8, .inl R))) rfl (by decide) rfl hf rfl (Nat.le_of_ble_eq_true rfl) (sDo_up (d := 1) (by decide) (s_no (d := 0) hH (by decide) (by decide))) (fun r h8 hq9 => ?_)
    obtain ⟨rfl, R, rfl⟩ := hq9
    refine g_ireturn (ty := .int) rfl rfl rfl ?_
    exact ⟨rfl, no_R hR⟩
theorem s_copy12_in {h : sHp} {hd so sz co : Nat → Int32} {cl t0 : Nat → Int64} {f g : Nat → Option Nat} {p q i j n : Int32} {P Q : Nat} {x : Int32} (hH : bH h) (q4 : bR4 h hd so sz co cl f g) (hR : ¬ x = 1 → bR5 h) (a9 : h[72]? = some (.inl (1, 100, .inr (.inl t0)))) (hp : p.toInt = P) (hP : P < 8) (hq : q.toInt = Q) (hQ : Q < 8) {R : sHp → Prop} (hx : (hd P = 2 ∧ x = -2 ∧ R = bR5) ∨ ((hd P = 0 ∨ hd P = 1) ∧ hd Q = 2 ∧ x = -2 ∧ R = bR5) ∨ (hd P = 0 ∧ (hd Q = 0 ∨ hd Q = 1) ∧ x = -3 ∧ R = bR5) ∨ (hd P = 1 ∧ hd Q = 0 ∧ x = -3 ∧ R = bR5) ∨ (hd P = 1 ∧ hd Q = 1 ∧ ¬ so P = so Q ∧ x = -2 ∧ R = bR5) ∨ (hd P = 1 ∧ hd Q = 1 ∧ so P = so Q ∧ n.toInt < 0 ∧ x = -4 ∧ R = bR5) ∨ (hd P = 1 ∧ hd Q = 1 ∧ so P = so Q ∧ 0 ≤ n.toInt ∧ 0 ≤ (sz P).toInt ∧ (sz P).toInt ≤ 100 ∧ 0 ≤ (sz Q).toInt ∧ (sz Q).toInt ≤ 100 ∧ ¬ (0 ≤ i.toInt ∧ 0 ≤ j.toInt ∧ i.toInt + n.toInt ≤ (sz P).toInt ∧ j.toInt + n.toInt ≤ (sz Q).toInt) ∧ x = -5 ∧ R = bR5) ∨ (hd P = 1 ∧ hd Q = 1 ∧ so P = so Q ∧ 0 ≤ n.toInt ∧ 0 ≤ (sz P).toInt ∧ (sz P).toInt ≤ 100 ∧ 0 ≤ (sz Q).toInt ∧ (sz Q).toInt ≤ 100 ∧ 0 ≤ i.toInt ∧ 0 ≤ j.toInt ∧ i.toInt + n.toInt ≤ (sz P).toInt ∧ j.toInt + n.toInt ≤ (sz Q).toInt ∧ x = 1 ∧ R = fun h' => h' = (h.set 72 (.inl (1, 100, .inr (.inl (yp1 t0 cl (100 * P + i.toNatClampNeg) n.toNatClampNeg))))).set 71 (.inl (1, 800, .inr (.inl (yp2 cl (yp1 t0 cl (100 * P + i.toNatClampNeg) n.toNatClampNeg) (100 * Q + j.toNatClampNeg) n.toNatClampNeg)))))) : sDo 10 180 [.ref 60, .int p, .int q, .int i, .int j, .int n] h (fun r h' => r = some (.int x) ∧ R h') := by
  obtain ⟨a1, a2, a3, a4, a5, a6, a7, a8⟩ := q4
  obtain ⟨fs, hf, -⟩ := bObj60 hH
  obtain ⟨w14, f14, r14⟩ := bF60 hH hf (j := 14) (ty := .inr (2, 67)) (by decide +kernel)
  cases bT_one (by decide) (by decide +kernel) r14
  obtain ⟨w15, f15, r15⟩ := bF60 hH hf (j := 15) (ty := .inr (2, 68)) (by decide +kernel)
  cases bT_one (by decide) (by decide +kernel) r15
  obtain ⟨w16, f16, r16⟩ := bF60 hH hf (j := 16) (ty := .inr (2, 69)) (by decide +kernel)
  cases bT_one (by decide) (by decide +kernel) r16
  obtain ⟨w17, f17, r17⟩ := bF60 hH hf (j := 17) (ty := .inr (2, 70)) (by decide +kernel)
  cases bT_one (by decide) (by decide +kernel) r17
  obtain ⟨w18, f18, r18⟩ := bF60 hH hf (j := 18) (ty := .inr (2, 71)) (by decide +kernel)
  cases bT_one (by decide) (by decide +kernel) r18
  have pn : p.toNatClampNeg = P := i_nat hp
  obtain ⟨w19, f19, r19⟩ := bF60 hH hf (j := 19) (ty := .inr (2, 72)) (by decide +kernel)
  cases bT_one (by decide) (by decide +kernel) r19
  have qn : q.toNatClampNeg = Q := i_nat hq
  have e0 : (0 : Int32).toInt = 0 := rfl
  have nf : n.toInt ≤ (2147483647 : Int) := (aFull_ok n).2
  refine sDo_of (d := 9) (nL := 7) (L := [some (.ref 60), some (.int p), some (.int q), some (.int i), some (.int j), some (.int n), none]) rfl rfl ?_
  refine g_aload_n (i := 0) rfl rfl ?_
  refine g_iload_n (i := 1) rfl rfl ?_
  refine g_virt1 (Qc := fun r h' => h' = h ∧ r = some (.int 1)) rfl (by decide) rfl hf rfl (Nat.le_of_ble_eq_true rfl) (s_sh12 (by rw [if_pos (by omega)])) (fun r h9 hq9 => ?_)
  obtain ⟨rfl, rfl⟩ := hq9
  refine g_if_eq 16 rfl rfl (fun hc => absurd hc (by decide)) (fun _ => ?_)
  refine g_aload_n (i := 0) rfl rfl ?_
  refine g_iload_n (i := 2) rfl rfl ?_
  refine g_virt1 (Qc := fun r h' => h' = h9 ∧ r = some (.int 1)) rfl (by decide) rfl hf rfl (Nat.le_of_ble_eq_true rfl) (s_sh12 (by rw [if_pos (by omega)])) (fun r h8 hq9 => ?_)
  obtain ⟨rfl, rfl⟩ := hq9
  refine g_if_ne 22 rfl rfl (fun _ => ?_) (fun hc => absurd hc (by decide))
  refine g_aload_n (i := 0) rfl rfl ?_
  refine g_getfield (v := .ref 67) rfl hf (by decide) f14 ?_
  refine g_iload_n (i := 1) rfl rfl ?_
  refine g_ialv (n := 8) (f := hd) (v := hd P) rfl a4 (i_in (by omega) (by omega)) (congrArg hd pn) ?_
  refine g_iconst (n := 2) rfl ?_
  rcases hx with ⟨y1, rfl, rfl⟩ | ⟨y1, y2, rfl, rfl⟩ | ⟨y1, y2, rfl, rfl⟩ | ⟨y1, y2, rfl, rfl⟩ | ⟨y1, y2, y3, rfl, rfl⟩ | ⟨y1, y2, y3, y4, rfl, rfl⟩ | ⟨y1, y2, y3, y4, s1, s2, s3, s4, y5, rfl, rfl⟩ | ⟨y1, y2, y3, y4, s1, s2, s3, s4, i0, j0, i1, j1, rfl, rfl⟩
  · skip
    refine g_icmp_eq 77 rfl rfl (fun _ => ?_) (fun hc => absurd hc (by exact fun z => z y1))
    refine g_aload_n (i := 0) rfl rfl ?_
    refine g_bipush (n := (-2)) rfl ?_
    refine g_virt1 (Qc := fun r h' => r = some (.int (-2)) ∧ ∃ R, h' = List.set h8 61 (.inl (0, 8, .inl R))) rfl (by decide) rfl hf rfl (Nat.le_of_ble_eq_true rfl) (sDo_up (d := 1) (by decide) (s_no (d := 0) hH (by decide) (by decide))) (fun r h7 hq9 => ?_)
    obtain ⟨rfl, R, rfl⟩ := hq9
    refine g_ireturn (ty := .int) rfl rfl rfl ?_
    exact ⟨rfl, no_R (hR (by decide))⟩
  · skip
    refine g_icmp_eq 77 rfl rfl (fun hc => absurd hc (by intro z; rcases y1 with y1 | y1 <;> exact absurd (y1.symm.trans z) (by decide))) (fun _ => ?_)
    refine g_aload_n (i := 0) rfl rfl ?_
    refine g_getfield (v := .ref 67) rfl hf (by decide) f14 ?_
    refine g_iload_n (i := 2) rfl rfl ?_
    refine g_ialv (n := 8) (f := hd) (v := hd Q) rfl a4 (i_in (by omega) (by omega)) (congrArg hd qn) ?_
    refine g_iconst (n := 2) rfl ?_
    refine g_icmp_eq 77 rfl rfl (fun _ => ?_) (fun hc => absurd hc (by exact fun z => z y2))
    refine g_aload_n (i := 0) rfl rfl ?_
    refine g_bipush (n := (-2)) rfl ?_
    refine g_virt1 (Qc := fun r h' => r = some (.int (-2)) ∧ ∃ R, h' = List.set h8 61 (.inl (0, 8, .inl R))) rfl (by decide) rfl hf rfl (Nat.le_of_ble_eq_true rfl) (sDo_up (d := 1) (by decide) (s_no (d := 0) hH (by decide) (by decide))) (fun r h7 hq9 => ?_)
    obtain ⟨rfl, R, rfl⟩ := hq9
    refine g_ireturn (ty := .int) rfl rfl rfl ?_
    exact ⟨rfl, no_R (hR (by decide))⟩
  · skip
    refine g_icmp_eq 77 rfl rfl (fun hc => absurd hc (by exact fun z => absurd (y1.symm.trans z) (by decide))) (fun _ => ?_)
    refine g_aload_n (i := 0) rfl rfl ?_
    refine g_getfield (v := .ref 67) rfl hf (by decide) f14 ?_
    refine g_iload_n (i := 2) rfl rfl ?_
    refine g_ialv (n := 8) (f := hd) (v := hd Q) rfl a4 (i_in (by omega) (by omega)) (congrArg hd qn) ?_
    refine g_iconst (n := 2) rfl ?_
    refine g_icmp_eq 77 rfl rfl (fun hc => absurd hc (by intro z; rcases y2 with y2 | y2 <;> exact absurd (y2.symm.trans z) (by decide))) (fun _ => ?_)
    refine g_aload_n (i := 0) rfl rfl ?_
    refine g_getfield (v := .ref 67) rfl hf (by decide) f14 ?_
    refine g_iload_n (i := 1) rfl rfl ?_
    refine g_ialv (n := 8) (f := hd) (v := hd P) rfl a4 (i_in (by omega) (by omega)) (congrArg hd pn) ?_
    refine g_iconst (n := 1) rfl ?_
    refine g_icmp_ne 84 rfl rfl (fun _ => ?_) (fun hc => absurd hc (by exact fun z => absurd (y1.symm.trans z) (by decide)))
    refine g_aload_n (i := 0) rfl rfl ?_
    refine g_getfield (v := .ref 67) rfl hf (by decide) f14 ?_
    refine g_iload_n (i := 1) rfl rfl ?_
    refine g_ialv (n := 8) (f := hd) (v := hd P) rfl a4 (i_in (by omega) (by omega)) (congrArg hd pn) ?_
    refine g_if_eq 102 rfl rfl (fun _ => ?_) (fun hc => absurd hc (by exact fun z => z y1))
    refine g_aload_n (i := 0) rfl rfl ?_
    refine g_bipush (n := (-3)) rfl ?_
    refine g_virt1 (Qc := fun r h' => r = some (.int (-3)) ∧ ∃ R, h' = List.set h8 61 (.inl (0, 8, .inl R))) rfl (by decide) rfl hf rfl (Nat.le_of_ble_eq_true rfl) (sDo_up (d := 1) (by decide) (s_no (d := 0) hH (by decide) (by decide))) (fun r h7 hq9 => ?_)
    obtain ⟨rfl, R, rfl⟩ := hq9
    refine g_ireturn (ty := .int) rfl rfl rfl ?_
    exact ⟨rfl, no_R (hR (by decide))⟩
  · skip
    refine g_icmp_eq 77 rfl rfl (fun hc => absurd hc (by exact fun z => absurd (y1.symm.trans z) (by decide))) (fun _ => ?_)
    refine g_aload_n (i := 0) rfl rfl ?_
    refine g_getfield (v := .ref 67) rfl hf (by decide) f14 ?_
    refine g_iload_n (i := 2) rfl rfl ?_
    refine g_ialv (n := 8) (f := hd) (v := hd Q) rfl a4 (i_in (by omega) (by omega)) (congrArg hd qn) ?_
    refine g_iconst (n := 2) rfl ?_
    refine g_icmp_eq 77 rfl rfl (fun hc => absurd hc (by exact fun z => absurd (y2.symm.trans z) (by decide))) (fun _ => ?_)
    refine g_aload_n (i := 0) rfl rfl ?_
    refine g_getfield (v := .ref 67) rfl hf (by decide) f14 ?_
    refine g_iload_n (i := 1) rfl rfl ?_
    refine g_ialv (n := 8) (f := hd) (v := hd P) rfl a4 (i_in (by omega) (by omega)) (congrArg hd pn) ?_
    refine g_iconst (n := 1) rfl ?_
    refine g_icmp_ne 84 rfl rfl (fun hc => absurd hc (by exact fun z => z y1)) (fun _ => ?_)
    refine g_aload_n (i := 0) rfl rfl ?_
    refine g_getfield (v := .ref 67) rfl hf (by decide) f14 ?_
    refine g_iload_n (i := 2) rfl rfl ?_
    refine g_ialv (n := 8) (f := hd) (v := hd Q) rfl a4 (i_in (by omega) (by omega)) (congrArg hd qn) ?_
    refine g_iconst (n := 1) rfl ?_
    refine g_icmp_ne 84 rfl rfl (fun _ => ?_) (fun hc => absurd hc (by exact fun z => absurd (y2.symm.trans z) (by decide)))
    refine g_aload_n (i := 0) rfl rfl ?_
    refine g_getfield (v := .ref 67) rfl hf (by decide) f14 ?_
    refine g_iload_n (i := 1) rfl rfl ?_
    refine g_ialv (n := 8) (f := hd) (v := hd P) rfl a4 (i_in (by omega) (by omega)) (congrArg hd pn) ?_
    refine g_if_eq 102 rfl rfl (fun hc => absurd hc (by exact fun z => absurd (y1.symm.trans z) (by decide))) (fun _ => ?_)
    refine g_aload_n (i := 0) rfl rfl ?_
    refine g_getfield (v := .ref 67) rfl hf (by decide) f14 ?_
    refine g_iload_n (i := 2) rfl rfl ?_
    refine g_ialv (n := 8) (f := hd) (v := hd Q) rfl a4 (i_in (by omega) (by omega)) (congrArg hd qn) ?_
    refine g_if_ne 109 rfl rfl (fun hc => absurd hc (by exact fun z => z y2)) (fun _ => ?_)
    refine g_aload_n (i := 0) rfl rfl ?_
    refine g_bipush (n := (-3)) rfl ?_
    refine g_virt1 (Qc := fun r h' => r = some (.int (-3)) ∧ ∃ R, h' = List.set h8 61 (.inl (0, 8, .inl R))) rfl (by decide) rfl hf rfl (Nat.le_of_ble_eq_true rfl) (sDo_up (d := 1) (by decide) (s_no (d := 0) hH (by decide) (by decide))) (fun r h7 hq9 => ?_)
    obtain ⟨rfl, R, rfl⟩ := hq9
    refine g_ireturn (ty := .int) rfl rfl rfl ?_
    exact ⟨rfl, no_R (hR (by decide))⟩
  · skip
    refine g_icmp_eq 77 rfl rfl (fun hc => absurd hc (by exact fun z => absurd (y1.symm.trans z) (by decide))) (fun _ => ?_)
    refine g_aload_n (i := 0) rfl rfl ?_
    refine g_getfield (v := .ref 67) rfl hf (by decide) f14 ?_
    refine g_iload_n (i := 2) rfl rfl ?_
    refine g_ialv (n := 8) (f := hd) (v := hd Q) rfl a4 (i_in (by omega) (by omega)) (congrArg hd qn) ?_
    refine g_iconst (n := 2) rfl ?_
    refine g_icmp_eq 77 rfl rfl (fun hc => absurd hc (by exact fun z => absurd (y2.symm.trans z) (by decide))) (fun _ => ?_)
    refine g_aload_n (i := 0) rfl rfl ?_
    refine g_getfield (v := .ref 67) rfl hf (by decide) f14 ?_
    refine g_iload_n (i := 1) rfl rfl ?_
    refine g_ialv (n := 8) (f := hd) (v := hd P) rfl a4 (i_in (by omega) (by omega)) (congrArg hd pn) ?_
    refine g_iconst (n := 1) rfl ?_
    refine g_icmp_ne 84 rfl rfl (fun hc => absurd hc (by exact fun z => z y1)) (fun _ => ?_)
    refine g_aload_n (i := 0) rfl rfl ?_
    refine g_getfield (v := .ref 67) rfl hf (by decide) f14 ?_
    refine g_iload_n (i := 2) rfl rfl ?_
    refine g_ialv (n := 8) (f := hd) (v := hd Q) rfl a4 (i_in (by omega) (by omega)) (congrArg hd qn) ?_
    refine g_iconst (n := 1) rfl ?_
    refine g_icmp_ne 84 rfl rfl (fun hc => absurd hc (by exact fun z => z y2)) (fun _ => ?_)
    refine g_aload_n (i := 0) rfl rfl ?_
    refine g_getfield (v := .ref 68) rfl hf (by decide) f15 ?_
    refine g_iload_n (i := 1) rfl rfl ?_
    refine g_ialv (n := 8) (f := so) (v := so P) rfl a5 (i_in (by omega) (by omega)) (congrArg so pn) ?_
    refine g_aload_n (i := 0) rfl rfl ?_
    refine g_getfield (v := .ref 68) rfl hf (by decide) f15 ?_
    refine g_iload_n (i := 2) rfl rfl ?_
    refine g_ialv (n := 8) (f := so) (v := so Q) rfl a5 (i_in (by omega) (by omega)) (congrArg so qn) ?_
    refine g_icmp_eq 84 rfl rfl (fun hc => absurd hc (by exact y3)) (fun _ => ?_)
    refine g_aload_n (i := 0) rfl rfl ?_
    refine g_bipush (n := (-2)) rfl ?_
    refine g_virt1 (Qc := fun r h' => r = some (.int (-2)) ∧ ∃ R, h' = List.set h8 61 (.inl (0, 8, .inl R))) rfl (by decide) rfl hf rfl (Nat.le_of_ble_eq_true rfl) (sDo_up (d := 1) (by decide) (s_no (d := 0) hH (by decide) (by decide))) (fun r h7 hq9 => ?_)
    obtain ⟨rfl, R, rfl⟩ := hq9
    refine g_ireturn (ty := .int) rfl rfl rfl ?_
    exact ⟨rfl, no_R (hR (by decide))⟩
  · skip
    refine g_icmp_eq 77 rfl rfl (fun hc => absurd hc (by exact fun z => absurd (y1.symm.trans z) (by decide))) (fun _ => ?_)
    refine g_aload_n (i := 0) rfl rfl ?_
    refine g_getfield (v := .ref 67) rfl hf (by decide) f14 ?_
    refine g_iload_n (i := 2) rfl rfl ?_
    refine g_ialv (n := 8) (f := hd) (v := hd Q) rfl a4 (i_in (by omega) (by omega)) (congrArg hd qn) ?_
    refine g_iconst (n := 2) rfl ?_
    refine g_icmp_eq 77 rfl rfl (fun hc => absurd hc (by exact fun z => absurd (y2.symm.trans z) (by decide))) (fun _ => ?_)
    refine g_aload_n (i := 0) rfl rfl ?_
    refine g_getfield (v := .ref 67) rfl hf (by decide) f14 ?_
    refine g_iload_n (i := 1) rfl rfl ?_
    refine g_ialv (n := 8) (f := hd) (v := hd P) rfl a4 (i_in (by omega) (by omega)) (congrArg hd pn) ?_
    refine g_iconst (n := 1) rfl ?_
    refine g_icmp_ne 84 rfl rfl (fun hc => absurd hc (by exact fun z => z y1)) (fun _ => ?_)
    refine g_aload_n (i := 0) rfl rfl ?_
    refine g_getfield (v := .ref 67) rfl hf (by decide) f14 ?_
    refine g_iload_n (i := 2) rfl rfl ?_
    refine g_ialv (n := 8) (f := hd) (v := hd Q) rfl a4 (i_in (by omega) (by omega)) (congrArg hd qn) ?_
    refine g_iconst (n := 1) rfl ?_
    refine g_icmp_ne 84 rfl rfl (fun hc => absurd hc (by exact fun z => z y2)) (fun _ => ?_)
    refine g_aload_n (i := 0) rfl rfl ?_
    refine g_getfield (v := .ref 68) rfl hf (by decide) f15 ?_
    refine g_iload_n (i := 1) rfl rfl ?_
    refine g_ialv (n := 8) (f := so) (v := so P) rfl a5 (i_in (by omega) (by omega)) (congrArg so pn) ?_
    refine g_aload_n (i := 0) rfl rfl ?_
    refine g_getfield (v := .ref 68) rfl hf (by decide) f15 ?_
    refine g_iload_n (i := 2) rfl rfl ?_
    refine g_ialv (n := 8) (f := so) (v := so Q) rfl a5 (i_in (by omega) (by omega)) (congrArg so qn) ?_
    refine g_icmp_eq 84 rfl rfl (fun _ => ?_) (fun hc => absurd hc (by exact fun z => z y3))
    refine g_aload_n (i := 0) rfl rfl ?_
    refine g_getfield (v := .ref 67) rfl hf (by decide) f14 ?_
    refine g_iload_n (i := 1) rfl rfl ?_
    refine g_ialv (n := 8) (f := hd) (v := hd P) rfl a4 (i_in (by omega) (by omega)) (congrArg hd pn) ?_
    refine g_if_eq 102 rfl rfl (fun hc => absurd hc (by exact fun z => absurd (y1.symm.trans z) (by decide))) (fun _ => ?_)
    refine g_aload_n (i := 0) rfl rfl ?_
    refine g_getfield (v := .ref 67) rfl hf (by decide) f14 ?_
    refine g_iload_n (i := 2) rfl rfl ?_
    refine g_ialv (n := 8) (f := hd) (v := hd Q) rfl a4 (i_in (by omega) (by omega)) (congrArg hd qn) ?_
    refine g_if_ne 109 rfl rfl (fun _ => ?_) (fun hc => absurd hc (by exact fun z => absurd (y2.symm.trans z) (by decide)))
    refine g_iload (i := 5) rfl rfl ?_
    refine g_if_ge 121 rfl rfl (fun hc => absurd hc (by rw [i_le, e0]; omega)) (fun _ => ?_)
    refine g_aload_n (i := 0) rfl rfl ?_
    refine g_bipush (n := (-4)) rfl ?_
    refine g_virt1 (Qc := fun r h' => r = some (.int (-4)) ∧ ∃ R, h' = List.set h8 61 (.inl (0, 8, .inl R))) rfl (by decide) rfl hf rfl (Nat.le_of_ble_eq_true rfl) (sDo_up (d := 1) (by decide) (s_no (d := 0) hH (by decide) (by decide))) (fun r h7 hq9 => ?_)
    obtain ⟨rfl, R, rfl⟩ := hq9
    refine g_ireturn (ty := .int) rfl rfl rfl ?_
    exact ⟨rfl, no_R (hR (by decide))⟩
  · skip
    refine g_icmp_eq 77 rfl rfl (fun hc => absurd hc (by exact fun z => absurd (y1.symm.trans z) (by decide))) (fun _ => ?_)
    refine g_aload_n (i := 0) rfl rfl ?_
    refine g_getfield (v := .ref 67) rfl hf (by decide) f14 ?_
    refine g_iload_n (i := 2) rfl rfl ?_
    refine g_ialv (n := 8) (f := hd) (v := hd Q) rfl a4 (i_in (by omega) (by omega)) (congrArg hd qn) ?_
    refine g_iconst (n := 2) rfl ?_
    refine g_icmp_eq 77 rfl rfl (fun hc => absurd hc (by exact fun z => absurd (y2.symm.trans z) (by decide))) (fun _ => ?_)
    refine g_aload_n (i := 0) rfl rfl ?_
    refine g_getfield (v := .ref 67) rfl hf (by decide) f14 ?_
    refine g_iload_n (i := 1) rfl rfl ?_
    refine g_ialv (n := 8) (f := hd) (v := hd P) rfl a4 (i_in (by omega) (by omega)) (congrArg hd pn) ?_
    refine g_iconst (n := 1) rfl ?_
    refine g_icmp_ne 84 rfl rfl (fun hc => absurd hc (by exact fun z => z y1)) (fun _ => ?_)
    refine g_aload_n (i := 0) rfl rfl ?_
    refine g_getfield (v := .ref 67) rfl hf (by decide) f14 ?_
    refine g_iload_n (i := 2) rfl rfl ?_
    refine g_ialv (n := 8) (f := hd) (v := hd Q) rfl a4 (i_in (by omega) (by omega)) (congrArg hd qn) ?_
    refine g_iconst (n := 1) rfl ?_
    refine g_icmp_ne 84 rfl rfl (fun hc => absurd hc (by exact fun z => z y2)) (fun _ => ?_)
    refine g_aload_n (i := 0) rfl rfl ?_
    refine g_getfield (v := .ref 68) rfl hf (by decide) f15 ?_
    refine g_iload_n (i := 1) rfl rfl ?_
    refine g_ialv (n := 8) (f := so) (v := so P) rfl a5 (i_in (by omega) (by omega)) (congrArg so pn) ?_
    refine g_aload_n (i := 0) rfl rfl ?_
    refine g_getfield (v := .ref 68) rfl hf (by decide) f15 ?_
    refine g_iload_n (i := 2) rfl rfl ?_
    refine g_ialv (n := 8) (f := so) (v := so Q) rfl a5 (i_in (by omega) (by omega)) (congrArg so qn) ?_
    refine g_icmp_eq 84 rfl rfl (fun _ => ?_) (fun hc => absurd hc (by exact fun z => z y3))
    refine g_aload_n (i := 0) rfl rfl ?_
    refine g_getfield (v := .ref 67) rfl hf (by decide) f14 ?_
    refine g_iload_n (i := 1) rfl rfl ?_
    refine g_ialv (n := 8) (f := hd) (v := hd P) rfl a4 (i_in (by omega) (by omega)) (congrArg hd pn) ?_
    refine g_if_eq 102 rfl rfl (fun hc => absurd hc (by exact fun z => absurd (y1.symm.trans z) (by decide))) (fun _ => ?_)
    refine g_aload_n (i := 0) rfl rfl ?_
    refine g_getfield (v := .ref 67) rfl hf (by decide) f14 ?_
    refine g_iload_n (i := 2) rfl rfl ?_
    refine g_ialv (n := 8) (f := hd) (v := hd Q) rfl a4 (i_in (by omega) (by omega)) (congrArg hd qn) ?_
    refine g_if_ne 109 rfl rfl (fun _ => ?_) (fun hc => absurd hc (by exact fun z => absurd (y2.symm.trans z) (by decide)))
    refine g_iload (i := 5) rfl rfl ?_
    refine g_if_ge 121 rfl rfl (fun _ => ?_) (fun hc => absurd hc (by rw [i_le, e0]; omega))
    have m1 : (sz P - n).toInt = (sz P).toInt - n.toInt := i_sub (by omega) (by omega)
    have m2 : (sz Q - n).toInt = (sz Q).toInt - n.toInt := i_sub (by omega) (by omega)
    refine g_iload_n (i := 3) rfl rfl ?_
    refine g_if_lt 157 rfl rfl (fun c1 => ?_) (fun c1 => ?_)
    · skip
      refine g_aload_n (i := 0) rfl rfl ?_
      refine g_bipush (n := (-5)) rfl ?_
      refine g_virt1 (Qc := fun r h' => r = some (.int (-5)) ∧ ∃ R, h' = List.set h8 61 (.inl (0, 8, .inl R))) rfl (by decide) rfl hf rfl (Nat.le_of_ble_eq_true rfl) (sDo_up (d := 1) (by decide) (s_no (d := 0) hH (by decide) (by decide))) (fun r h7 hq9 => ?_)
      obtain ⟨rfl, R, rfl⟩ := hq9
      refine g_ireturn (ty := .int) rfl rfl rfl ?_
      exact ⟨rfl, no_R (hR (by decide))⟩
    · skip
      rw [i_lt, e0] at c1
      refine g_iload (i := 4) rfl rfl ?_
      refine g_if_lt 157 rfl rfl (fun c2 => ?_) (fun c2 => ?_)
      · skip
        refine g_aload_n (i := 0) rfl rfl ?_
        refine g_bipush (n := (-5)) rfl ?_
        refine g_virt1 (Qc := fun r h' => r = some (.int (-5)) ∧ ∃ R, h' = List.set h8 61 (.inl (0, 8, .inl R))) rfl (by decide) rfl hf rfl (Nat.le_of_ble_eq_true rfl) (sDo_up (d := 1) (by decide) (s_no (d := 0) hH (by decide) (by decide))) (fun r h7 hq9 => ?_)
        obtain ⟨rfl, R, rfl⟩ := hq9
        refine g_ireturn (ty := .int) rfl rfl rfl ?_
        exact ⟨rfl, no_R (hR (by decide))⟩
      · skip
        rw [i_lt, e0] at c2
        refine g_iload_n (i := 3) rfl rfl ?_
        refine g_aload_n (i := 0) rfl rfl ?_
        refine g_getfield (v := .ref 69) rfl hf (by decide) f16 ?_
        refine g_iload_n (i := 1) rfl rfl ?_
        refine g_ialv (n := 8) (f := sz) (v := sz P) rfl a6 (i_in (by omega) (by omega)) (congrArg sz pn) ?_
        refine g_iload (i := 5) rfl rfl ?_
        refine g_isub rfl ?_
        refine g_icmp_gt 157 rfl rfl (fun c3 => ?_) (fun c3 => ?_)
        · skip
          refine g_aload_n (i := 0) rfl rfl ?_
          refine g_bipush (n := (-5)) rfl ?_
          refine g_virt1 (Qc := fun r h' => r = some (.int (-5)) ∧ ∃ R, h' = List.set h8 61 (.inl (0, 8, .inl R))) rfl (by decide) rfl hf rfl (Nat.le_of_ble_eq_true rfl) (sDo_up (d := 1) (by decide) (s_no (d := 0) hH (by decide) (by decide))) (fun r h7 hq9 => ?_)
          obtain ⟨rfl, R, rfl⟩ := hq9
          refine g_ireturn (ty := .int) rfl rfl rfl ?_
          exact ⟨rfl, no_R (hR (by decide))⟩
        · skip
          rw [i_lt, m1] at c3
          refine g_iload (i := 4) rfl rfl ?_
          refine g_aload_n (i := 0) rfl rfl ?_
          refine g_getfield (v := .ref 69) rfl hf (by decide) f16 ?_
          refine g_iload_n (i := 2) rfl rfl ?_
          refine g_ialv (n := 8) (f := sz) (v := sz Q) rfl a6 (i_in (by omega) (by omega)) (congrArg sz qn) ?_
          refine g_iload (i := 5) rfl rfl ?_
          refine g_isub rfl ?_
          refine g_icmp_le 164 rfl rfl (fun hc => absurd hc (by rw [i_le, m2]; omega)) (fun _ => ?_)
          refine g_aload_n (i := 0) rfl rfl ?_
          refine g_bipush (n := (-5)) rfl ?_
          refine g_virt1 (Qc := fun r h' => r = some (.int (-5)) ∧ ∃ R, h' = List.set h8 61 (.inl (0, 8, .inl R))) rfl (by decide) rfl hf rfl (Nat.le_of_ble_eq_true rfl) (sDo_up (d := 1) (by decide) (s_no (d := 0) hH (by decide) (by decide))) (fun r h7 hq9 => ?_)
          obtain ⟨rfl, R, rfl⟩ := hq9
          refine g_ireturn (ty := .int) rfl rfl rfl ?_
          exact ⟨rfl, no_R (hR (by decide))⟩
  · skip
    refine g_icmp_eq 77 rfl rfl (fun hc => absurd hc (by exact fun z => absurd (y1.symm.trans z) (by decide))) (fun _ => ?_)
    refine g_aload_n (i := 0) rfl rfl ?_
    refine g_getfield (v := .ref 67) rfl hf (by decide) f14 ?_
    refine g_iload_n (i := 2) rfl rfl ?_
    refine g_ialv (n := 8) (f := hd) (v := hd Q) rfl a4 (i_in (by omega) (by omega)) (congrArg hd qn) ?_
    refine g_iconst (n := 2) rfl ?_
    refine g_icmp_eq 77 rfl rfl (fun hc => absurd hc (by exact fun z => absurd (y2.symm.trans z) (by decide))) (fun _ => ?_)
    refine g_aload_n (i := 0) rfl rfl ?_
    refine g_getfield (v := .ref 67) rfl hf (by decide) f14 ?_
    refine g_iload_n (i := 1) rfl rfl ?_
    refine g_ialv (n := 8) (f := hd) (v := hd P) rfl a4 (i_in (by omega) (by omega)) (congrArg hd pn) ?_
    refine g_iconst (n := 1) rfl ?_
    refine g_icmp_ne 84 rfl rfl (fun hc => absurd hc (by exact fun z => z y1)) (fun _ => ?_)
    refine g_aload_n (i := 0) rfl rfl ?_
    refine g_getfield (v := .ref 67) rfl hf (by decide) f14 ?_
    refine g_iload_n (i := 2) rfl rfl ?_
    refine g_ialv (n := 8) (f := hd) (v := hd Q) rfl a4 (i_in (by omega) (by omega)) (congrArg hd qn) ?_
    refine g_iconst (n := 1) rfl ?_
    refine g_icmp_ne 84 rfl rfl (fun hc => absurd hc (by exact fun z => z y2)) (fun _ => ?_)
    refine g_aload_n (i := 0) rfl rfl ?_
    refine g_getfield (v := .ref 68) rfl hf (by decide) f15 ?_
    refine g_iload_n (i := 1) rfl rfl ?_
    refine g_ialv (n := 8) (f := so) (v := so P) rfl a5 (i_in (by omega) (by omega)) (congrArg so pn) ?_
    refine g_aload_n (i := 0) rfl rfl ?_
    refine g_getfield (v := .ref 68) rfl hf (by decide) f15 ?_
    refine g_iload_n (i := 2) rfl rfl ?_
    refine g_ialv (n := 8) (f := so) (v := so Q) rfl a5 (i_in (by omega) (by omega)) (congrArg so qn) ?_
    refine g_icmp_eq 84 rfl rfl (fun _ => ?_) (fun hc => absurd hc (by exact fun z => z y3))
    refine g_aload_n (i := 0) rfl rfl ?_
    refine g_getfield (v := .ref 67) rfl hf (by decide) f14 ?_
    refine g_iload_n (i := 1) rfl rfl ?_
    refine g_ialv (n := 8) (f := hd) (v := hd P) rfl a4 (i_in (by omega) (by omega)) (congrArg hd pn) ?_
    refine g_if_eq 102 rfl rfl (fun hc => absurd hc (by exact fun z => absurd (y1.symm.trans z) (by decide))) (fun _ => ?_)
    refine g_aload_n (i := 0) rfl rfl ?_
    refine g_getfield (v := .ref 67) rfl hf (by decide) f14 ?_
    refine g_iload_n (i := 2) rfl rfl ?_
    refine g_ialv (n := 8) (f := hd) (v := hd Q) rfl a4 (i_in (by omega) (by omega)) (congrArg hd qn) ?_
    refine g_if_ne 109 rfl rfl (fun _ => ?_) (fun hc => absurd hc (by exact fun z => absurd (y2.symm.trans z) (by decide)))
    refine g_iload (i := 5) rfl rfl ?_
    refine g_if_ge 121 rfl rfl (fun _ => ?_) (fun hc => absurd hc (by rw [i_le, e0]; omega))
    have m1 : (sz P - n).toInt = (sz P).toInt - n.toInt := i_sub (by omega) (by omega)
    have m2 : (sz Q - n).toInt = (sz Q).toInt - n.toInt := i_sub (by omega) (by omega)
    have in_ : i.toInt = (i.toNatClampNeg : Int) := by
      show i.toInt = ((i.toInt.toNat : Nat) : Int)
      omega
    have jn : j.toInt = (j.toNatClampNeg : Int) := by
      show j.toInt = ((j.toInt.toNat : Nat) : Int)
      omega
    have nn : n.toInt = (n.toNatClampNeg : Int) := by
      show n.toInt = ((n.toInt.toNat : Nat) : Int)
      omega
    refine g_iload_n (i := 3) rfl rfl ?_
    refine g_if_lt 157 rfl rfl (fun hc => absurd hc (by rw [i_lt, e0]; omega)) (fun _ => ?_)
    refine g_iload (i := 4) rfl rfl ?_
    refine g_if_lt 157 rfl rfl (fun hc => absurd hc (by rw [i_lt, e0]; omega)) (fun _ => ?_)
    refine g_iload_n (i := 3) rfl rfl ?_
    refine g_aload_n (i := 0) rfl rfl ?_
    refine g_getfield (v := .ref 69) rfl hf (by decide) f16 ?_
    refine g_iload_n (i := 1) rfl rfl ?_
    refine g_ialv (n := 8) (f := sz) (v := sz P) rfl a6 (i_in (by omega) (by omega)) (congrArg sz pn) ?_
    refine g_iload (i := 5) rfl rfl ?_
    refine g_isub rfl ?_
    refine g_icmp_gt 157 rfl rfl (fun hc => absurd hc (by rw [i_lt, m1]; omega)) (fun _ => ?_)
    refine g_iload (i := 4) rfl rfl ?_
    refine g_aload_n (i := 0) rfl rfl ?_
    refine g_getfield (v := .ref 69) rfl hf (by decide) f16 ?_
    refine g_iload_n (i := 2) rfl rfl ?_
    refine g_ialv (n := 8) (f := sz) (v := sz Q) rfl a6 (i_in (by omega) (by omega)) (congrArg sz qn) ?_
    refine g_iload (i := 5) rfl rfl ?_
    refine g_isub rfl ?_
    refine g_icmp_le 164 rfl rfl (fun _ => ?_) (fun hc => absurd hc (by rw [i_le, m2]; omega))
    refine g_iconst (n := 0) rfl ?_
    refine g_istore (i := 6) (L1 := [some (.ref 60), some (.int p), some (.int q), some (.int i), some (.int j), some (.int n), some (.int (Int32.ofInt 0))]) rfl (Nat.le_of_ble_eq_true rfl) rfl ?_
    have h0 := s_cp1_go (d := 9) (q := q) (j := j) (Q := fun r h' => r = some (.int 1) ∧ h' = (h8.set 72 (.inl (1, 100, .inr (.inl (yp1 t0 cl (100 * P + i.toNatClampNeg) n.toNatClampNeg))))).set 71 (.inl (1, 800, .inr (.inl (yp2 cl (yp1 t0 cl (100 * P + i.toNatClampNeg) n.toNatClampNeg) (100 * Q + j.toNatClampNeg) n.toNatClampNeg))))) hf f18 f19 a8 a9 hp in_ nn hP (by omega) (fun k => ?_) (n.toNatClampNeg + 1) (Int32.ofInt 0) 0 rfl (by omega) (by omega)
    · rw [yp1_0, s_set_self a9] at h0
      exact h0
    · skip
      refine g_iconst (n := 0) rfl ?_
      refine g_istore (i := 6) (L1 := [some (.ref 60), some (.int p), some (.int q), some (.int i), some (.int j), some (.int n), some (.int (Int32.ofInt 0))]) rfl (Nat.le_of_ble_eq_true rfl) rfl ?_
      have c8 : (h8.set 72 (.inl (1, 100, .inr (.inl (yp1 t0 cl (100 * P + i.toNatClampNeg) n.toNatClampNeg)))))[71]? = some (.inl (1, 800, .inr (.inl cl))) := by rw [s_set_ne (by decide)]; exact a8
      have h1 := s_cp2_go (d := 9) (p := p) (i := i) (Q := fun r h' => r = some (.int 1) ∧ h' = (h8.set 72 (.inl (1, 100, .inr (.inl (yp1 t0 cl (100 * P + i.toNatClampNeg) n.toNatClampNeg))))).set 71 (.inl (1, 800, .inr (.inl (yp2 cl (yp1 t0 cl (100 * P + i.toNatClampNeg) n.toNatClampNeg) (100 * Q + j.toNatClampNeg) n.toNatClampNeg))))) (by rw [s_set_ne (by decide)]; exact hf) f18 f19 c8 (s_set_eq a9) hq jn nn hQ (by omega) ⟨rfl, rfl⟩ (n.toNatClampNeg + 1) (Int32.ofInt 0) 0 rfl (by omega) (by omega)
      rw [yp2_0, s_set_self c8] at h1
      exact h1
/-- the relation behind a copy -/
theorem el_copy {h : sHp} {hd so sz co : Nat → Int32} {cl t0 T' : Nat → Int64} {f g : Nat → Option Nat} {P Q I J N : Nat} {op zp oq zq : Int32} {elp elq : Nat → Int64} (q4 : bR4 h hd so sz co cl f g) (q5 : ∀ s, s < 8 → bRS hd so sz co cl g h s) (hP : P < 8) (hQ : Q < 8) (b3 : bSh hd so sz co cl g h P op zp elp) (d1 : h[44 + 2 * Q]? = some (.inr (7, [.int oq, .int zq, .ref (45 + 2 * Q)]))) (d2 : h[45 + 2 * Q]? = some (.inl (1, 100, .inr (.inl elq)))) (d3 : bSh hd so sz co cl g h Q oq zq elq) (h1 : hd P = 1) (hI : ((I + N : Nat) : Int) ≤ zp.toInt) (hJ : ((J + N : Nat) : Int) ≤ zq.toInt) (zq1 : zq.toInt ≤ 100) : bR5 (((h.set (45 + 2 * Q) (.inl (1, 100, .inr (.inl (va_cpy elp elq I J N))))).set 72 (.inl (1, 100, .inr (.inl T')))).set 71 (.inl (1, 800, .inr (.inl (yp2 cl (yp1 t0 cl (100 * P + I) N) (100 * Q + J) N))))) := by
  obtain ⟨a1, a2, a3, a4, a5, a6, a7, a8⟩ := q4
  obtain ⟨-, -, -, -, elP, -⟩ := bSh_1 b3 h1
  refine ⟨hd, so, sz, co, yp2 cl (yp1 t0 cl (100 * P + I) N) (100 * Q + J) N, f, g, ⟨?_, a2, ?_, ?_, ?_, ?_, ?_, ?_⟩, fun t ht => ?_⟩
  · rw [s_set_ne (by omega), s_set_ne (by omega), s_set_ne (by omega)]; exact a1
  · rw [s_set_ne (by omega), s_set_ne (by omega), s_set_ne (by omega)]; exact a3
  · rw [s_set_ne (by omega), s_set_ne (by omega), s_set_ne (by omega)]; exact a4
  · rw [s_set_ne (by omega), s_set_ne (by omega), s_set_ne (by omega)]; exact a5
  · rw [s_set_ne (by omega), s_set_ne (by omega), s_set_ne (by omega)]; exact a6
  · rw [s_set_ne (by omega), s_set_ne (by omega), s_set_ne (by omega)]; exact a7
  · exact s_set_eq (by rw [s_set_ne (by omega), s_set_ne (by omega)]; exact a8)
  · by_cases e : t = Q
    · subst e
      refine ⟨oq, zq, va_cpy elp elq I J N, by rw [s_set_ne (by omega), s_set_ne (by omega), s_set_ne (by omega)]; exact d1, by rw [s_set_ne (by omega), s_set_ne (by omega)]; exact s_set_eq d2, ?_⟩
      rcases bSh_set (p := 71) (c := .inl (1, 800, .inr (.inl (yp2 cl (yp1 t0 cl (100 * P + I) N) (100 * t + J) N)))) (bSh_set (p := 72) (c := .inl (1, 100, .inr (.inl T'))) (bSh_set (p := 45 + 2 * t) (c := .inl (1, 100, .inr (.inl (va_cpy elp elq I J N)))) d3 (by omega)) (by decide)) (by decide) with x | ⟨x1, x2, x3, x4, x5, x6, x7, x8, x9⟩ | x
      · exact Or.inl x
      · refine Or.inr (Or.inl ⟨x1, x2, x3, x4, x5, x6, x7, x8, fun i hi => ?_⟩)
        unfold va_cpy yp2
        by_cases ei : J ≤ i ∧ i < J + N
        · rw [if_pos ei, if_pos (show 100 * t + J ≤ 100 * t + i ∧ 100 * t + i < 100 * t + J + N by omega)]
          unfold yp1
          rw [if_pos (show 100 * t + i - (100 * t + J) < N by omega), elP (I + (i - J)) (by omega)]
          exact congrArg cl (by omega)
        · rw [if_neg ei, if_neg (show ¬ (100 * t + J ≤ 100 * t + i ∧ 100 * t + i < 100 * t + J + N) by omega)]
          exact x9 i hi
      · exact Or.inr (Or.inr x)
    · obtain ⟨ot', z', el', r1, r2, r3⟩ := bRS_set (p := 71) (c := .inl (1, 800, .inr (.inl (yp2 cl (yp1 t0 cl (100 * P + I) N) (100 * Q + J) N)))) (bRS_set (p := 72) (c := .inl (1, 100, .inr (.inl T'))) (bRS_set (p := 45 + 2 * Q) (c := .inl (1, 100, .inr (.inl (va_cpy elp elq I J N)))) (q5 t ht) (by omega) (by omega) (by omega)) (by decide) (by omega) (by omega)) (by decide) (by omega) (by omega)
      refine ⟨ot', z', el', r1, r2, ?_⟩
      rcases r3 with x | ⟨x1, x2, x3, x4, x5, x6, x7, x8, x9⟩ | x
      · exact Or.inl x
      · refine Or.inr (Or.inl ⟨x1, x2, x3, x4, x5, x6, x7, x8, fun i hi => ?_⟩)
        unfold yp2
        rw [if_neg (by omega)]
        exact x9 i hi
      · exact Or.inr (Or.inr x)
theorem pr_copy (p q i j n : Int32) : bPair 116 180 [.int p, .int q, .int i, .int j, .int n] := by
  have c1 : ∀ h, bH h → sDo 10 116 (.ref 0 :: [.int p, .int q, .int i, .int j, .int n]) h (fun _ h' => bH h' ∧ h'.length ≤ h.length + 1) := fun h hH => pr_use ch_X11_copy_0 (by decide +kernel) (by decide +kernel) rfl hH ⟨bt0 hH, vI0 p, vI0 q, vI0 i, vI0 j, vI0 n, trivial⟩
  have c2 : ∀ h, bH h → sDo 10 180 (.ref 60 :: [.int p, .int q, .int i, .int j, .int n]) h (fun _ h' => bH h' ∧ h'.length ≤ h.length + 1) := fun h hH => pr_use ch_X12_copy_0 (by decide +kernel) (by decide +kernel) rfl hH ⟨bt60 hH, vI0 p, vI0 q, vI0 i, vI0 j, vI0 n, trivial⟩
  intro h hH hR
  have ck := hR
  obtain ⟨hd, so, sz, co, cl, f, g, q4, q5⟩ := ck
  have val : ∀ (s : Int32) (S : Nat), s.toInt = S → S < 8 → ∃ z, nrOf hd S = z ∧ (z = 0 ∨ z = -2 ∨ z = -3) ∧ sDo 2 161 [.ref 0, .int s] h (fun r h' => h' = h ∧ r = some (.int z)) := by
    intro s S hs hS
    obtain ⟨ot, z, el, b1, b2, b3⟩ := q5 S hS
    refine ⟨_, rfl, ?_, s_noIn (d := 0) hH q4 hs hS b1 b3⟩
    unfold nrOf
    split
    · exact Or.inl rfl
    · split
      · exact Or.inr (Or.inl rfl)
      · exact Or.inr (Or.inr rfl)
  have any : ∀ (s : Int32), ∃ z, (z = 0 ∨ z = -2 ∨ z = -3 ∨ z = -1) ∧ sDo 2 161 [.ref 0, .int s] h (fun r h' => h' = h ∧ r = some (.int z)) := by
    intro s
    by_cases hs : 0 ≤ s.toInt ∧ s.toInt < 8
    · obtain ⟨z, -, z1, z2⟩ := val s s.toInt.toNat (by omega) (by omega)
      exact ⟨z, by rcases z1 with e | e | e <;> simp only [e, true_or, or_true], z2⟩
    · exact ⟨-1, Or.inr (Or.inr (Or.inr rfl)), s_noOut (d := 0) hs⟩
  have out : ¬ ((0 ≤ p.toInt ∧ p.toInt < 8) ∧ (0 ≤ q.toInt ∧ q.toInt < 8)) → ∀ np nq, eaOf np nq = -1 → sDo 2 161 [.ref 0, .int p] h (fun r h' => h' = h ∧ r = some (.int np)) → sDo 2 161 [.ref 0, .int q] h (fun r h' => h' = h ∧ r = some (.int nq)) → _ := fun hs np nq hx cp cq => pair_case hH c1 c2 (s_copy11_no hH cp cq hx (by decide) (by decide) (by decide)) (fun h1 hH1 hP => s_copy12_out hH1 (pRef_5 hP hR) hs)
  by_cases hp : 0 ≤ p.toInt ∧ p.toInt < 8
  · by_cases hq : 0 ≤ q.toInt ∧ q.toInt < 8
    · obtain ⟨P, hPe⟩ : ∃ S : Nat, p.toInt = S := ⟨p.toInt.toNat, by omega⟩
      have hP8 : P < 8 := by omega
      obtain ⟨Q, hQe⟩ : ∃ S : Nat, q.toInt = S := ⟨q.toInt.toNat, by omega⟩
      have hQ8 : Q < 8 := by omega
      obtain ⟨np, np1, np2, cp⟩ := val p P hPe hP8
      obtain ⟨nq, nq1, nq2, cq⟩ := val q Q hQe hQ8
      obtain ⟨op, zp, elp, b1, b2, b3⟩ := q5 P hP8
      obtain ⟨oq, zq, elq, d1, d2, d3⟩ := q5 Q hQ8
      have hd3 : ∀ S ot z el, bSh hd so sz co cl g h S ot z el → hd S = 0 ∨ hd S = 1 ∨ hd S = 2 := by
        intro S ot z el b
        rcases b with ⟨x, -⟩ | ⟨x, -⟩ | ⟨x, -⟩
        · exact Or.inl x
        · exact Or.inr (Or.inl x)
        · exact Or.inr (Or.inr x)
      -- refused by noRow
      have ref : ∀ x : Int32, eaOf np nq = x → (x = -2 ∨ x = -3) → ((hd P = 2 ∧ x = -2) ∨ ((hd P = 0 ∨ hd P = 1) ∧ hd Q = 2 ∧ x = -2) ∨ (hd P = 0 ∧ (hd Q = 0 ∨ hd Q = 1) ∧ x = -3) ∨ (hd P = 1 ∧ hd Q = 0 ∧ x = -3)) → sDo 10 116 (.ref 0 :: [.int p, .int q, .int i, .int j, .int n]) h (fun r1 h1 => bH h1 ∧ h1.length ≤ h.length + 1 ∧ sDo 10 180 (.ref 60 :: [.int p, .int q, .int i, .int j, .int n]) h1 (fun r2 h2 => bH h2 ∧ h2.length ≤ h1.length + 1 ∧ bR5 h2 ∧ ∃ x, r1 = some x ∧ r2 = some x)) := by
        intro x hx hx2 hc
        have kx : ¬ x = 0 ∧ -7 ≤ x.toInt ∧ x.toInt ≤ -1 := by rcases hx2 with e | e <;> rw [e] <;> decide
        refine pair_case hH c1 c2 (s_copy11_no hH cp cq hx kx.1 kx.2.1 kx.2.2) (fun h1 hH1 hP => ?_)
        obtain ⟨t0, ht0⟩ := bA60L hH1 (p := 72) (n := 100) (cs := []) (z := 0) (by decide) rfl
        refine s_copy12_in (R := bR5) hH1 (pRef_4 hP q4) (fun _ => pRef_5 hP hR) ht0 hPe hP8 hQe hQ8 ?_
        rcases hc with ⟨k1, k2⟩ | ⟨k1, k2, k3⟩ | ⟨k1, k2, k3⟩ | ⟨k1, k2, k3⟩
        · exact Or.inl ⟨k1, k2, rfl⟩
        · exact Or.inr (Or.inl ⟨k1, k2, k3, rfl⟩)
        · exact Or.inr (Or.inr (Or.inl ⟨k1, k2, k3, rfl⟩))
        · exact Or.inr (Or.inr (Or.inr (Or.inl ⟨k1, k2, k3, rfl⟩)))
      have en : ∀ S v, nrOf hd S = v → (hd S = 0 → v = -3) ∧ (hd S = 1 → v = 0) ∧ (hd S = 2 → v = -2) := by
        intro S v hv
        unfold nrOf at hv
        refine ⟨fun z => ?_, fun z => ?_, fun z => ?_⟩ <;> rw [z] at hv <;> exact hv.symm
      have eP := en P np np1
      have eQ := en Q nq nq1
      rcases hd3 P _ _ _ b3 with z1 | z1 | z1
      · rcases hd3 Q _ _ _ d3 with z2 | z2 | z2
        · exact ref (-3) (by rw [eP.1 z1, eQ.1 z2]; decide) (Or.inr rfl) (Or.inr (Or.inr (Or.inl ⟨z1, Or.inl z2, rfl⟩)))
        · exact ref (-3) (by rw [eP.1 z1, eQ.2.1 z2]; decide) (Or.inr rfl) (Or.inr (Or.inr (Or.inl ⟨z1, Or.inr z2, rfl⟩)))
        · exact ref (-2) (by rw [eP.1 z1, eQ.2.2 z2]; decide) (Or.inl rfl) (Or.inr (Or.inl ⟨Or.inl z1, z2, rfl⟩))
      · rcases hd3 Q _ _ _ d3 with z2 | z2 | z2
        · exact ref (-3) (by rw [eP.2.1 z1, eQ.1 z2]; decide) (Or.inr rfl) (Or.inr (Or.inr (Or.inr ⟨z1, z2, rfl⟩)))
        · obtain ⟨w1, w2, w3, w4, w5, -⟩ := bSh_1 b3 z1
          obtain ⟨v1, v2, v3, v4, v5, -⟩ := bSh_1 d3 z2
          by_cases ho : op = oq
          · have ho2 : so P = so Q := w1.symm.trans (ho.trans v1)
            by_cases hn : n.toInt < 0
            · refine pair_case hH c1 c2 (s_copy11_in hH q4 hPe hP8 hQe hQ8 b1 b2 b3 d1 d2 d3 z1 z2 (x := -4) (Or.inr (Or.inl ⟨ho, hn, rfl, rfl⟩))) (fun h1 hH1 hP => ?_)
              obtain ⟨t0, ht0⟩ := bA60L hH1 (p := 72) (n := 100) (cs := []) (z := 0) (by decide) rfl
              exact s_copy12_in (R := bR5) hH1 (pRef_4 hP q4) (fun _ => pRef_5 hP hR) ht0 hPe hP8 hQe hQ8 (Or.inr (Or.inr (Or.inr (Or.inr (Or.inr (Or.inl ⟨z1, z2, ho2, hn, rfl, rfl⟩))))))
            · have hn0 : 0 ≤ n.toInt := by omega
              by_cases hr : 0 ≤ i.toInt ∧ 0 ≤ j.toInt ∧ i.toInt + n.toInt ≤ zp.toInt ∧ j.toInt + n.toInt ≤ zq.toInt
              · refine pair_case hH c1 c2 (s_copy11_in hH q4 hPe hP8 hQe hQ8 b1 b2 b3 d1 d2 d3 z1 z2 (x := 1) (Or.inr (Or.inr (Or.inr ⟨ho, hn0, hr.1, hr.2.1, hr.2.2.1, hr.2.2.2, rfl, rfl⟩)))) (fun h1 hH1 hP => ?_)
                subst hP
                obtain ⟨t0, ht0⟩ := bA60L hH1 (p := 72) (n := 100) (cs := []) (z := 0) (by decide) rfl
                have in_ : (i.toNatClampNeg : Int) = i.toInt := by
                  show ((i.toInt.toNat : Nat) : Int) = i.toInt
                  omega
                have jn : (j.toNatClampNeg : Int) = j.toInt := by
                  show ((j.toInt.toNat : Nat) : Int) = j.toInt
                  omega
                have nn : (n.toNatClampNeg : Int) = n.toInt := by
                  show ((n.toInt.toNat : Nat) : Int) = n.toInt
                  omega
                have fin := el_copy (t0 := t0) (T' := yp1 t0 cl (100 * P + i.toNatClampNeg) n.toNatClampNeg) (I := i.toNatClampNeg) (J := j.toNatClampNeg) (N := n.toNatClampNeg) q4 q5 hP8 hQ8 b3 d1 d2 d3 z1 (by omega) (by omega) v4
                refine sDo_mono (s_copy12_in (x := 1) hH1 (bR4_set q4 (by omega) (by omega) (by omega)) (fun z => absurd rfl z) ht0 hPe hP8 hQe hQ8 (Or.inr (Or.inr (Or.inr (Or.inr (Or.inr (Or.inr (Or.inr ⟨z1, z2, ho2, hn0, by rw [← w2]; exact w3, by rw [← w2]; exact w4, by rw [← v2]; exact v3, by rw [← v2]; exact v4, hr.1, hr.2.1, by rw [← w2]; exact hr.2.2.1, by rw [← v2]; exact hr.2.2.2, rfl, rfl⟩)))))))) (fun r h' qq => ?_)
                obtain ⟨rfl, rfl⟩ := qq
                exact ⟨rfl, fin⟩
              · refine pair_case hH c1 c2 (s_copy11_in hH q4 hPe hP8 hQe hQ8 b1 b2 b3 d1 d2 d3 z1 z2 (x := -5) (Or.inr (Or.inr (Or.inl ⟨ho, hn0, hr, rfl, rfl⟩)))) (fun h1 hH1 hP => ?_)
                obtain ⟨t0, ht0⟩ := bA60L hH1 (p := 72) (n := 100) (cs := []) (z := 0) (by decide) rfl
                exact s_copy12_in (R := bR5) hH1 (pRef_4 hP q4) (fun _ => pRef_5 hP hR) ht0 hPe hP8 hQe hQ8 (Or.inr (Or.inr (Or.inr (Or.inr (Or.inr (Or.inr (Or.inl ⟨z1, z2, ho2, hn0, by rw [← w2]; exact w3, by rw [← w2]; exact w4, by rw [← v2]; exact v3, by rw [← v2]; exact v4, by rw [← w2, ← v2]; exact hr, rfl, rfl⟩)))))))
          · refine pair_case hH c1 c2 (s_copy11_in hH q4 hPe hP8 hQe hQ8 b1 b2 b3 d1 d2 d3 z1 z2 (x := -2) (Or.inl ⟨ho, rfl, rfl⟩)) (fun h1 hH1 hP => ?_)
            obtain ⟨t0, ht0⟩ := bA60L hH1 (p := 72) (n := 100) (cs := []) (z := 0) (by decide) rfl
            exact s_copy12_in (R := bR5) hH1 (pRef_4 hP q4) (fun _ => pRef_5 hP hR) ht0 hPe hP8 hQe hQ8 (Or.inr (Or.inr (Or.inr (Or.inr (Or.inl ⟨z1, z2, fun z => ho (w1.trans (z.trans v1.symm)), rfl, rfl⟩)))))
        · exact ref (-2) (by rw [eP.2.1 z1, eQ.2.2 z2]; decide) (Or.inl rfl) (Or.inr (Or.inl ⟨Or.inr z1, z2, rfl⟩))
      · exact ref (-2) (by rw [eP.2.2 z1]; rcases hd3 Q _ _ _ d3 with z2 | z2 | z2; · rw [eQ.1 z2]; decide
                           · rw [eQ.2.1 z2]; decide
                           · rw [eQ.2.2 z2]; decide) (Or.inl rfl) (Or.inl ⟨z1, rfl⟩)
    · obtain ⟨z, z1, cp⟩ := any p
      refine out (fun w => hq w.2) z (-1) ?_ cp (s_noOut (d := 0) hq)
      rcases z1 with e | e | e | e <;> rw [e] <;> decide
  · obtain ⟨z, z1, cq⟩ := any q
    refine out (fun w => hp w.1) (-1) z ?_ (s_noOut (d := 0) hp) cq
    rcases z1 with e | e | e | e <;> rw [e] <;> decide
