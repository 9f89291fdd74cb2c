/-! ===== calls that change nothing of the relation ===== -/
def vE (h h1 : sHp) : Prop := h1.length = h.length ∧ ∀ q, (q < 38 ∨ 43 < q) → h1[q]? = h[q]?
theorem vE_rfl {h : sHp} : vE h h := ⟨rfl, fun _ _ => rfl⟩
theorem vE_43 {h : sHp} {c : va_E} : vE h (h.set 43 c) := ⟨List.length_set, fun q hq => s_set_ne (by omega)⟩
theorem vE_at {h h1 : sHp} {q : Nat} {x : va_E} (e : vE h h1) (hx : h[q]? = some x) (hq : q < 38 ∨ 43 < q) : h1[q]? = some x := (e.2 q hq).trans hx
theorem pr_q {c1 c2 : bCn} {as : List Value} (h1 : bHolds c1) (h2 : bHolds c2) (d1 : Nat.ble c1.2.1 10 = true) (d2 : Nat.ble c2.2.1 10 = true) (g1 : Nat.ble c1.2.2.2.2.2.1 1 = true) (g2 : Nat.ble c2.2.2.2.2.2.1 1 = true) (o1 : c1.2.2.2.1 = []) (o2 : c2.2.2.2.1 = []) (t1 : ∀ h, bH h → bTl h c1.2.2.1 (.ref 0 :: as)) (t2 : ∀ h, bH h → bTl h c2.2.2.1 (.ref 60 :: as)) (w1 : ∀ b ∈ bR7M, c1.2.2.2.2.1.testBit b = false) (w2 : ∀ b ∈ bR7M, c2.2.2.2.2.1.testBit b = false) (e : ∀ h, bH h → bR7 h → ∃ v, sDo 10 c1.1 (.ref 0 :: as) h (fun r h1 => r = some v ∧ vE h h1) ∧ ∀ h1, bH h1 → vE h h1 → sDo 10 c2.1 (.ref 60 :: as) h1 (fun r _ => r = some v)) : pairR bR7 c1.1 c2.1 as := pr_mk h1 h2 d1 d2 g1 g2 o1 o2 t1 t2 (fun h hH hR => by
  obtain ⟨v, e1, e2⟩ := e h hH hR
  exact sDo_mono e1 (fun r1 h1' q hH1 fr1 => sDo_mono (e2 h1' hH1 q.2) (fun r2 h2' p hH2 fr2 => ⟨bR7_fr hH2 fr2 w2 (bR7_fr hH1 fr1 w1 hR), v, q.1, p⟩)))
theorem un7 {h : sHp} (hH : bH h) (hR : bR7 h) : ∃ (c : CF) (m : MF) (W H N : Nat) (ik tf : Int32) (R : Nat → Int32) (hd so sz co : Nat → Int32) (cl : Nat → Int64) (f g : Nat → Option Nat), FC h 5 c ∧ gdF c W H ∧ MC h m ∧ gdM m.1 W H ∧ h[0]? = some (cO ik tf) ∧ h[43]? = some (rFc R) ∧ bR4 h hd so sz co cl f g ∧ (∀ s, s < 8 → bRS hd so sz co cl g h s) ∧ N ≤ 5 ∧ c.1 11 = Int32.ofNat N ∧ m.1 6 = Int32.ofNat N := by
  obtain ⟨⟨hd, so, sz, co, cl, f, g, q4, bs⟩, I, G, Ik, Gk, ik, tf, J, gk, ⟨q5, -, q0, x5, -, -⟩, ⟨⟨J', M60, eJ, -⟩, -⟩, -, rn, -⟩ := hR
  obtain ⟨⟨s1, s2, s3, s4, s5⟩, F, -⟩ := FC_ext5 hH q5 x5
  obtain ⟨⟨n1, n2, n3, n4, n5⟩, M⟩ := MC_ext hH M60
  obtain ⟨R, hR⟩ := RA_of hH (p := 43) (Or.inl rfl)
  obtain ⟨W, H, N, gd, hN, c11, m0, m1, m6, -⟩ := rn
  have gd' := gd
  obtain ⟨g0, g1, w2, w8, h2, h8, -⟩ := gd'
  exact ⟨(I, G, s1, s2, s3, s4, s5), (J', n1, n2, n3, n4, n5), W, H, N, ik, tf, R, hd, so, sz, co, cl, f, g, F, gd, M, ⟨(eJ 0 (by decide)).trans m0, (eJ 1 (by decide)).trans m1, w2, w8, h2, h8⟩, q0, hR, q4, bs, hN, c11, (eJ 6 (by decide)).trans m6⟩
theorem s_noCutX {d : Nat} {h : sHp} {fs : List Value} {f g : Nat → Option Nat} {s : Int32} {S : Nat} {ot z nc : Int32} (hf : h[0]? = some (.inr (11, fs))) (f0 : fs[0]? = some (.ref 1)) (f1 : fs[1]? = some (.ref 2)) (a1 : h[1]? = some (.inl (3, 8, .inr (.inr (.inr (.inr f)))))) (a2 : ∀ s, s < 8 → f s = some (44 + 2 * s)) (a3 : h[2]? = some (.inl (4, 8, .inr (.inr (.inr (.inr g)))))) (hs : s.toInt = S) (hS : S < 8) (b1 : h[44 + 2 * S]? = some (.inr (7, [.int ot, .int z, .ref (45 + 2 * S)]))) (hn : (¬ ot = -1 ∧ nc = -2) ∨ (g S = none ∧ ot = -1 ∧ nc = -3) ∨ (∃ p, g S = some p ∧ ot = -1 ∧ nc = 0)) : sDo (d + 2) 162 [.ref 0, .int s] h (fun r h' => h' = h ∧ r = some (.int nc)) := by
  have sn : s.toNatClampNeg = S := i_nat hs
  have fS : va_rf (f s.toNatClampNeg) = .ref (44 + 2 * S) := by rw [sn, a2 S hS]; rfl
  refine sDo_of (d := d + 1) (nL := 2) (L := [some (.ref 0), some (.int s)]) rfl rfl ?_
  refine g_iload_n (i := 1) rfl rfl ?_
  refine g_static1 (Qc := fun r h' => h' = h ∧ r = some (.int 1)) rfl (by decide) rfl (Nat.le_of_ble_eq_true rfl) (s_sh11 (by rw [if_pos (by omega)])) (fun r h9 hq9 => ?_)
  obtain ⟨rfl, rfl⟩ := hq9
  refine g_if_ne 9 rfl rfl (fun _ => ?_) (fun hc => absurd hc (by decide))
  refine g_aload_n (i := 0) rfl rfl ?_
  refine g_getfield (v := .ref 1) rfl hf (by decide) f0 ?_
  refine g_iload_n (i := 1) rfl rfl ?_
  refine g_aaload rfl a1 (by decide) (i_in (by omega) (by omega)) ?_
  rw [fS]
  rcases hn with ⟨ho, rfl⟩ | ⟨hg, ho, rfl⟩ | ⟨p, hg, ho, rfl⟩
  · skip
    refine g_virt0 (Qc := fun r h' => h' = h9 ∧ r = some (.int 1)) rfl (by decide) rfl b1 rfl (Nat.le_of_ble_eq_true rfl) (s_isHeld b1 (by rw [if_neg ho])) (fun r h8 hq9 => ?_)
    obtain ⟨rfl, rfl⟩ := hq9
    refine g_if_eq 24 rfl rfl (fun hc => absurd hc (by decide)) (fun _ => ?_)
    refine g_bipush (n := (-2)) rfl ?_
    refine g_ireturn (ty := .int) rfl rfl rfl ?_
    exact ⟨rfl, rfl⟩
  · skip
    refine g_virt0 (Qc := fun r h' => h' = h9 ∧ r = some (.int 0)) rfl (by decide) rfl b1 rfl (Nat.le_of_ble_eq_true rfl) (s_isHeld b1 (by rw [if_pos ho])) (fun r h8 hq9 => ?_)
    obtain ⟨rfl, rfl⟩ := hq9
    refine g_if_eq 24 rfl rfl (fun _ => ?_) (fun hc => absurd hc (by decide))
    refine g_aload_n (i := 0) rfl rfl ?_
    refine g_getfield (v := .ref 2) rfl hf (by decide) f1 ?_
    refine g_iload_n (i := 1) rfl rfl ?_
    have hgS : va_rf (g s.toNatClampNeg) = .null := by rw [sn, hg]; rfl
    refine g_aaload rfl a3 (by decide) (i_in (by omega) (by omega)) ?_
    rw [hgS]
    refine g_ifnullN 37 rfl rfl ?_
    refine g_bipush (n := (-3)) rfl ?_
    refine g_ireturn (ty := .int) rfl rfl rfl ?_
    exact ⟨rfl, rfl⟩
  · skip
    refine g_virt0 (Qc := fun r h' => h' = h9 ∧ r = some (.int 0)) rfl (by decide) rfl b1 rfl (Nat.le_of_ble_eq_true rfl) (s_isHeld b1 (by rw [if_pos ho])) (fun r h8 hq9 => ?_)
    obtain ⟨rfl, rfl⟩ := hq9
    refine g_if_eq 24 rfl rfl (fun _ => ?_) (fun hc => absurd hc (by decide))
    refine g_aload_n (i := 0) rfl rfl ?_
    refine g_getfield (v := .ref 2) rfl hf (by decide) f1 ?_
    refine g_iload_n (i := 1) rfl rfl ?_
    have hgS : va_rf (g s.toNatClampNeg) = .ref p := by rw [sn, hg]; rfl
    refine g_aaload rfl a3 (by decide) (i_in (by omega) (by omega)) ?_
    rw [hgS]
    refine g_ifnull 37 rfl rfl ?_
    refine g_iconst (n := 0) rfl ?_
    refine g_goto 39 rfl rfl ?_
    refine g_ireturn (ty := .int) rfl rfl rfl ?_
    exact ⟨rfl, rfl⟩
theorem s_noCutOX {d : Nat} {h : sHp} {s : Int32} (hs : ¬ (0 ≤ s.toInt ∧ s.toInt < 8)) : sDo (d + 2) 162 [.ref 0, .int s] h (fun r h' => h' = h ∧ r = some (.int (-1))) := by
  refine sDo_of (d := d + 1) (nL := 2) (L := [some (.ref 0), some (.int s)]) rfl rfl ?_
  refine g_iload_n (i := 1) rfl rfl ?_
  refine g_static1 (Qc := fun r h' => h' = h ∧ r = some (.int 0)) rfl (by decide) rfl (Nat.le_of_ble_eq_true rfl) (s_sh11 (by rw [if_neg hs])) (fun r h9 hq9 => ?_)
  obtain ⟨rfl, rfl⟩ := hq9
  refine g_if_ne 9 rfl rfl (fun hc => absurd hc (by decide)) (fun _ => ?_)
  refine g_iconst (n := (-1)) rfl ?_
  refine g_ireturn (ty := .int) rfl rfl rfl ?_
  exact ⟨rfl, rfl⟩
/-- what noCut says of a shelf -/
def ncS (hd : Nat → Int32) (S : Nat) : Int32 := if hd S = 2 then 0 else if hd S = 1 then -2 else -3
theorem s_noCutIn {d : Nat} {h : sHp} {ik tf : Int32} {hd so sz co : Nat → Int32} {cl : Nat → Int64} {f g : Nat → Option Nat} {s : Int32} {S : Nat} (hd2 : 2 ≤ d) (h0 : h[0]? = some (cO ik tf)) (q4 : bR4 h hd so sz co cl f g) (bs : ∀ s, s < 8 → bRS hd so sz co cl g h s) (hs : s.toInt = S) (hS : S < 8) : sDo d 162 [.ref 0, .int s] h (fun r h' => h' = h ∧ r = some (.int (ncS hd S))) := by
  obtain ⟨e, rfl⟩ : ∃ e, d = e + 2 := ⟨d - 2, by omega⟩
  obtain ⟨ot, z, el, b1, -, b3⟩ := bs S hS
  obtain ⟨a1, a2, a3, -⟩ := q4
  refine s_noCutX h0 rfl rfl a1 a2 a3 hs hS b1 ?_
  unfold ncS
  rcases b3 with ⟨x1, x2, x3⟩ | ⟨x1, x2, x3, x4, -⟩ | ⟨x1, x2, pc, x3, x4, -⟩
  · exact Or.inr (Or.inl ⟨x2, x3, by rw [x1]; rfl⟩)
  · refine Or.inl ⟨fun z => ?_, by rw [x1]; rfl⟩
    rw [z] at x4
    exact absurd x4 (by decide)
  · exact Or.inr (Or.inr ⟨pc, x4, x2, by rw [x1]; rfl⟩)
theorem nc_b {hd : Nat → Int32} {S : Nat} (h1 : hd S = 0 ∨ hd S = 1) : ∃ B : Nat, (2 ≤ B ∧ B ≤ 3) ∧ (ncS hd S).toInt = -(B : Int) := by
  unfold ncS
  rcases h1 with e | e
  · rw [e]; exact ⟨3, by decide, by decide⟩
  · rw [e]; exact ⟨2, by decide, by decide⟩
theorem hd_3 {hd so sz co : Nat → Int32} {cl : Nat → Int64} {g : Nat → Option Nat} {h : sHp} {S : Nat} (b : bRS hd so sz co cl g h S) : hd S = 0 ∨ hd S = 1 ∨ hd S = 2 := by
  obtain ⟨ot, z, el, -, -, b3⟩ := b
  rcases b3 with ⟨e, -⟩ | ⟨e, -⟩ | ⟨e, -⟩
  · exact Or.inl e
  · exact Or.inr (Or.inl e)
  · exact Or.inr (Or.inr e)
/-- a shelf with a cut: its cell, its code as a number -/
theorem cut_at {hd so sz co : Nat → Int32} {cl : Nat → Int64} {g : Nat → Option Nat} {h : sHp} {S : Nat} (b : bRS hd so sz co cl g h S) (h2 : hd S = 2) : ∃ (pc C : Nat), 79 ≤ pc ∧ g S = some pc ∧ h[pc]? = some (.inr (bKl7 (C / 1000), cutFs (Int32.ofNat S) (co S))) ∧ C < 7000 ∧ (co S).toInt = C := by
  obtain ⟨ot, z, el, -, -, b3⟩ := b
  rcases b3 with ⟨e, -⟩ | ⟨e, -⟩ | ⟨-, -, pc, x3, x4, x5, x6, x7⟩
  · rw [h2] at e; exact absurd e (by decide)
  · rw [h2] at e; exact absurd e (by decide)
  · refine ⟨pc, (co S).toInt.toNat, x3, x4, ?_, by omega, by omega⟩
    have e : bKi (co S) = bKl7 ((co S).toInt.toNat / 1000) := by
      unfold bKi bKl7
      rw [show ((co S).toInt / 1000).toNat = (co S).toInt.toNat / 1000 by omega]
    rw [← e]
    exact x5
theorem s_side11c {d : Nat} {h : sHp} {ik tf : Int32} {c : CF} {W H : Nat} {gg : Nat → Option Nat} {s x : Int32} {S pc C : Nat} {side : Int32} (hd : 6 ≤ d) (h0 : h[0]? = some (cO ik tf)) (F : FC h 5 c) (g : gdF c W H) (a3 : h[2]? = some (.inl (4, 8, .inr (.inr (.inr (.inr gg)))))) (hs : s.toInt = S) (hS : S < 8) (hg : gg S = some pc) (hc : C < 7000) (a : h[pc]? = some (.inr (bKl7 (C / 1000), cutFs (Int32.ofNat S) x))) (hx : x.toInt = C) (hno : sDo (d - 1) 162 [.ref 0, .int s] h (fun r h' => h' = h ∧ r = some (.int 0))) : sDo d 121 [.ref 0, .int s, .int side] h (fun r h' => h' = h ∧ r = some (.long (sdS W (W * H) C side.toInt))) := by
  refine sDo_of1 (nL := 3) (L := [some (.ref 0), some (.int s), some (.int side)]) (by omega) rfl rfl ?_
  refine g_aload_n (i := 0) rfl rfl ?_
  refine g_iload_n (i := 1) rfl rfl ?_
  refine g_virt1 (Qc := fun r h' => h' = h ∧ r = some (.int (0))) rfl (by decide) rfl h0 rfl (Nat.le_of_ble_eq_true rfl) (hno) (fun r h hq9 => ?_)
  obtain ⟨rfl, rfl⟩ := hq9
  refine g_if_ne 22 rfl rfl (fun hc => absurd hc (by decide)) (fun _ => ?_)
  refine g_aload_n (i := 0) rfl rfl ?_
  refine g_aload_n (i := 0) rfl rfl ?_
  refine g_getfield (v := .ref 2) rfl h0 (by decide) rfl ?_
  refine g_iload_n (i := 1) rfl rfl ?_
  have gS : va_rf (gg s.toNatClampNeg) = .ref pc := by rw [i_nat hs, hg]; rfl
  refine g_aaload rfl a3 (by decide) (i_in (by omega) (by omega)) ?_
  rw [gS]
  refine g_iload_n (i := 2) rfl rfl ?_
  have hsd := s_sideOf11 (d := d - 1) (side := side) (by omega) h0 rfl F g hc rfl a hx
  refine g_virt2 (Qc := fun r h' => h' = h ∧ r = some (.long (sdS W (W * H) C side.toInt))) rfl (by decide) rfl h0 rfl (Nat.le_of_ble_eq_true rfl) (hsd) (fun r h hq9 => ?_)
  obtain ⟨rfl, rfl⟩ := hq9
  refine g_goto 23 rfl rfl ?_
  refine g_lreturn rfl rfl ?_
  exact ⟨rfl, rfl⟩
theorem s_side11n {d : Nat} {h : sHp} {ik tf s side b : Int32} (hd : 2 ≤ d) (h0 : h[0]? = some (cO ik tf)) (hb : ¬ b = 0) (hno : sDo (d - 1) 162 [.ref 0, .int s] h (fun r h' => h' = h ∧ r = some (.int b))) : sDo d 121 [.ref 0, .int s, .int side] h (fun r h' => h' = h ∧ r = some (.long (Int64.ofNat 0))) := by
  refine sDo_of1 (nL := 3) (L := [some (.ref 0), some (.int s), some (.int side)]) (by omega) rfl rfl ?_
  refine g_aload_n (i := 0) rfl rfl ?_
  refine g_iload_n (i := 1) rfl rfl ?_
  refine g_virt1 (Qc := fun r h' => h' = h ∧ r = some (.int (b))) rfl (by decide) rfl h0 rfl (Nat.le_of_ble_eq_true rfl) (hno) (fun r h hq9 => ?_)
  obtain ⟨rfl, rfl⟩ := hq9
  refine g_if_ne 22 rfl rfl (fun _ => ?_) (fun hc => absurd hc (by exact hb))
  refine g_lconst (n := 0) rfl ?_
  show sGo none 121 _ 23 [some (.ref 0), some (.int s), some (.int side)] [.long (Int64.ofNat 0)] _ _
  refine g_lreturn rfl rfl ?_
  exact ⟨rfl, rfl⟩
theorem s_side12c {d : Nat} {h : sHp} {J hd co : Nat → Int32} {W H : Nat} {s side : Int32} {S C : Nat} (hd1 : 3 ≤ d) (hr : h[60]? = some (mO J)) (a4 : h[67]? = some (.inl (0, 8, .inl hd))) (g : gdM J W H) (a7 : h[70]? = some (.inl (0, 8, .inl co))) (hs : s.toInt = S) (hS : S < 8) (h2 : hd S = 2) (hC : (co S).toInt = C) (hc : C < 7000) : sDo d 188 [.ref 60, .int s, .int side] h (fun r h' => h' = h ∧ r = some (.long (sdS W (W * H) C side.toInt))) := by
  have e2 : (hd S).toInt = 2 := by rw [h2]; rfl
  have hn := gdM_n g
  refine sDo_of1 (nL := 3) (L := [some (.ref 60), some (.int s), some (.int side)]) (by omega) rfl rfl ?_
  refine g_aload_n (i := 0) rfl rfl ?_
  refine g_iload_n (i := 1) rfl rfl ?_
  refine g_virt1 (Qc := fun r h' => h' = h ∧ (((0 ≤ s.toInt ∧ s.toInt < 8) ∧ r = some (.int 1)) ∨ (¬ (0 ≤ s.toInt ∧ s.toInt < 8) ∧ r = some (.int 0)))) rfl (by decide) rfl hr rfl (Nat.le_of_ble_eq_true rfl) (s_sh12z (by omega)) (fun r h hq9 => ?_)
  obtain ⟨rfl, ⟨c_1, rfl⟩ | ⟨c_1, rfl⟩⟩ := hq9
  · skip
    refine g_if_eq 41 rfl rfl (fun hc => absurd hc (by decide)) (fun _ => ?_)
    refine g_aload_n (i := 0) rfl rfl ?_
    refine g_getfield (v := .ref 67) rfl hr (by decide) rfl ?_
    refine g_iload_n (i := 1) rfl rfl ?_
    refine g_iaload (n := 8) (f := hd) rfl a4 (i_in (by omega) (by omega)) ?_
    rw [i_nat hs]
    refine g_iconst (n := 2) rfl ?_
    have k_3 : (Int32.ofInt 2).toInt = 2 := rfl
    refine g_icmp_ne 41 rfl rfl (fun c_2 => ?_) (fun c_2 => ?_)
    · skip
      rw [i_eq, e2, k_3] at c_2
      refine g_lconst (n := 0) rfl ?_
      show sGo none 188 _ 42 [some (.ref 60), some (.int s), some (.int side)] [.long (Int64.ofNat 0)] _ _
      refine g_lreturn rfl rfl ?_
      exact ⟨rfl, congrArg (fun z => some (Value.long z)) (sdS_o hn.1 (by omega))⟩
    · skip
      rw [i_eq, e2, k_3] at c_2
      refine g_iload_n (i := 2) rfl rfl ?_
      have k_5 : (0 : Int32).toInt = 0 := rfl
      refine g_if_lt 41 rfl rfl (fun c_4 => ?_) (fun c_4 => ?_)
      · skip
        rw [i_lt, k_5] at c_4
        refine g_lconst (n := 0) rfl ?_
        show sGo none 188 _ 42 [some (.ref 60), some (.int s), some (.int side)] [.long (Int64.ofNat 0)] _ _
        refine g_lreturn rfl rfl ?_
        exact ⟨rfl, congrArg (fun z => some (Value.long z)) (sdS_o hn.1 (by omega))⟩
      · skip
        rw [i_lt, k_5] at c_4
        refine g_iload_n (i := 2) rfl rfl ?_
        refine g_iconst (n := 3) rfl ?_
        have k_7 : (Int32.ofInt 3).toInt = 3 := rfl
        refine g_icmp_ge 41 rfl rfl (fun c_6 => ?_) (fun c_6 => ?_)
        · skip
          rw [i_le, k_7] at c_6
          refine g_lconst (n := 0) rfl ?_
          show sGo none 188 _ 42 [some (.ref 60), some (.int s), some (.int side)] [.long (Int64.ofNat 0)] _ _
          refine g_lreturn rfl rfl ?_
          exact ⟨rfl, congrArg (fun z => some (Value.long z)) (sdS_o hn.1 (by omega))⟩
        · skip
          rw [i_le, k_7] at c_6
          refine g_aload_n (i := 0) rfl rfl ?_
          refine g_aload_n (i := 0) rfl rfl ?_
          refine g_getfield (v := .ref 70) rfl hr (by decide) rfl ?_
          refine g_iload_n (i := 1) rfl rfl ?_
          refine g_iaload (n := 8) (f := co) rfl a7 (i_in (by omega) (by omega)) ?_
          rw [i_nat hs]
          refine g_iload_n (i := 2) rfl rfl ?_
          refine g_virt2 (Qc := fun r h' => h' = h ∧ r = some (.long (sdS W (W * H) C side.toInt))) rfl (by decide) rfl hr rfl (Nat.le_of_ble_eq_true rfl) (s_sideOf12 (by omega) hr g hC hc) (fun r h hq9 => ?_)
          obtain ⟨rfl, rfl⟩ := hq9
          refine g_goto 42 rfl rfl ?_
          refine g_lreturn rfl rfl ?_
          exact ⟨rfl, rfl⟩
  · skip
    omega
theorem s_side12n {d : Nat} {h : sHp} {J hd : Nat → Int32} {s side : Int32} (hd1 : 3 ≤ d) (hr : h[60]? = some (mO J)) (a4 : h[67]? = some (.inl (0, 8, .inl hd))) (hn : ¬ ((0 ≤ s.toInt ∧ s.toInt < 8) ∧ hd s.toInt.toNat = 2)) : sDo d 188 [.ref 60, .int s, .int side] h (fun r h' => h' = h ∧ r = some (.long (Int64.ofNat 0))) := by
  refine sDo_of1 (nL := 3) (L := [some (.ref 60), some (.int s), some (.int side)]) (by omega) rfl rfl ?_
  refine g_aload_n (i := 0) rfl rfl ?_
  refine g_iload_n (i := 1) rfl rfl ?_
  refine g_virt1 (Qc := fun r h' => h' = h ∧ (((0 ≤ s.toInt ∧ s.toInt < 8) ∧ r = some (.int 1)) ∨ (¬ (0 ≤ s.toInt ∧ s.toInt < 8) ∧ r = some (.int 0)))) rfl (by decide) rfl hr rfl (Nat.le_of_ble_eq_true rfl) (s_sh12z (by omega)) (fun r h hq9 => ?_)
  obtain ⟨rfl, ⟨c_1, rfl⟩ | ⟨c_1, rfl⟩⟩ := hq9
  · skip
    obtain ⟨S, hs⟩ : ∃ S : Nat, s.toInt = S := ⟨s.toInt.toNat, by omega⟩
    have e2 : ¬ (hd S).toInt = 2 := fun z => hn ⟨c_1, by rw [show s.toInt.toNat = S by omega]; exact Int32.toInt_inj.mp (by rw [z]; rfl)⟩
    refine g_if_eq 41 rfl rfl (fun hc => absurd hc (by decide)) (fun _ => ?_)
    refine g_aload_n (i := 0) rfl rfl ?_
    refine g_getfield (v := .ref 67) rfl hr (by decide) rfl ?_
    refine g_iload_n (i := 1) rfl rfl ?_
    refine g_iaload (n := 8) (f := hd) rfl a4 (i_in (by omega) (by omega)) ?_
    rw [i_nat hs]
    refine g_iconst (n := 2) rfl ?_
    refine g_icmp_ne 41 rfl rfl (fun _ => ?_) (fun hc => absurd hc (by rw [i_eq]; exact e2))
    refine g_lconst (n := 0) rfl ?_
    show sGo none 188 _ 42 [some (.ref 60), some (.int s), some (.int side)] [.long (Int64.ofNat 0)] _ _
    refine g_lreturn rfl rfl ?_
    exact ⟨rfl, rfl⟩
  · skip
    refine g_if_eq 41 rfl rfl (fun _ => ?_) (fun hc => absurd hc (by decide))
    refine g_lconst (n := 0) rfl ?_
    show sGo none 188 _ 42 [some (.ref 60), some (.int s), some (.int side)] [.long (Int64.ofNat 0)] _ _
    refine g_lreturn rfl rfl ?_
    exact ⟨rfl, rfl⟩
theorem pr7_side (s : Int32) (side : Int32) : pairR bR7 121 188 [.int s, .int side] := pr_q (c1 := cn_X11_side_0) (c2 := cn_X12_side_0) ch_X11_side_0 ch_X12_side_0 (by decide +kernel) (by decide +kernel) (by decide +kernel) (by decide +kernel) rfl rfl (fun h hH => ⟨bt0 hH, vI0 s, vI0 side, trivial⟩) (fun h hH => ⟨bt60 hH, vI0 s, vI0 side, trivial⟩) (by decide +kernel) (by decide +kernel) (fun h hH hR => by
  obtain ⟨c, m, W, H, N, ik, tf, R, hd, so, sz, co, cl, f, gg, F, g, M, gM, h0, hR43, q4, bs, hN, c11, m6⟩ := un7 hH hR
  have q4' := q4
  obtain ⟨a1, a2, a3, a4, a5, a6, a7, a8⟩ := q4'
  by_cases hS : 0 ≤ s.toInt ∧ s.toInt < 8
  · obtain ⟨S, hs⟩ : ∃ S : Nat, s.toInt = S := ⟨s.toInt.toNat, by omega⟩
    have hno := s_noCutIn (d := 9) (by omega) h0 q4 bs hs (by omega)
    by_cases h2 : hd S = 2
    · obtain ⟨pc, C, -, hg, a, hc, hx⟩ := cut_at (bs S (by omega)) h2
      unfold ncS at hno
      rw [if_pos h2] at hno
      refine ⟨_, sDo_mono (s_side11c (d := 10) (side := side) (by omega) h0 F g a3 hs (by omega) hg hc a hx hno) (fun r h' q => ⟨q.2, by rw [q.1]; exact vE_rfl⟩), fun h1 hH1 E => ?_⟩
      exact sDo_mono (s_side12c (d := 10) (by omega) (vE_at E M.1 (by decide)) (vE_at E a4 (by decide)) gM (vE_at E a7 (by decide)) hs (by omega) h2 hx hc) (fun r h' q => q.2)
    · have hb : ¬ ncS hd S = 0 := fun z => by
        rcases hd_3 (bs S (by omega)) with e | e | e
        · unfold ncS at z; rw [e] at z; exact absurd z (by decide)
        · unfold ncS at z; rw [e] at z; exact absurd z (by decide)
        · exact h2 e
      refine ⟨_, sDo_mono (s_side11n (d := 10) (by omega) h0 hb hno) (fun r h' q => ⟨q.2, by rw [q.1]; exact vE_rfl⟩), fun h1 hH1 E => ?_⟩
      exact sDo_mono (s_side12n (d := 10) (by omega) (vE_at E M.1 (by decide)) (vE_at E a4 (by decide)) (fun z => h2 (by rw [show S = s.toInt.toNat by omega]; exact z.2))) (fun r h' q => q.2)
  · refine ⟨_, sDo_mono (s_side11n (d := 10) (by omega) h0 (show ¬ (-1 : Int32) = 0 by decide) (s_noCutOX (d := 7) hS)) (fun r h' q => ⟨q.2, by rw [q.1]; exact vE_rfl⟩), fun h1 hH1 E => ?_⟩
    exact sDo_mono (s_side12n (d := 10) (by omega) (vE_at E M.1 (by decide)) (vE_at E a4 (by decide)) (fun z => hS z.1)) (fun r h' q => q.2))
theorem low_st : ∀ n, n < 64 → (Int64.ofNat 1 <<< ((Int32.ofNat n).toInt64 &&& 63)) - Int64.ofNat 1 = stO (fun _ => true) n := by decide +kernel
theorem m1_st : lM1 = stO (fun _ => true) 64 := bt_ext (fun i hi => by rw [bt_m1, bt_stO _ _ (by decide), Bool.and_true])
theorem in_iff {x : Int64} {n : Nat} (hn : n ≤ 64) : x &&& (stO (fun _ => true) n ^^^ lM1) = Int64.ofNat 0 ↔ inN x n := by
  rw [bt_eq0]
  unfold inN
  refine forall_congr' (fun i => forall_congr' (fun hi => ?_))
  rw [bt_and, bt_not, bt_stO _ _ hn, decide_eq_true hi, Bool.and_true, Bool.true_and]
  cases bt x i
  · exact ⟨fun _ z => absurd z (by decide), fun _ => rfl⟩
  · rw [Bool.true_and, Bool.not_eq_false', decide_eq_true_eq]
    exact ⟨fun z _ => z, fun z => z rfl⟩
theorem s_hasAll {d : Nat} {h : sHp} {p : Nat} {c : CF} {W H : Nat} {x : Int64} (hd : 1 ≤ d) (F : FC h p c) (g : gdF c W H) : sDo d 24 [.ref p, .long x] h (fun r h' => h' = h ∧ (inN x (W * H) ∧ r = some (.int 1) ∨ ¬ inN x (W * H) ∧ r = some (.int 0))) := by
  have g2 := g.2.2.2.2.2.2.1
  have key := in_iff (x := x) (gdF_n g).1
  refine sDo_of1 (nL := 3) (L := [some (.ref p), some (.long x), none]) hd rfl rfl ?_
  refine g_lload_n (i := 1) rfl rfl ?_
  refine g_aload_n (i := 0) rfl rfl ?_
  refine g_getfield (v := .long (c.2.1 2)) rfl F.1 (by decide) rfl ?_
  refine g_ldc2_w (j := 18446744073709551615) rfl ?_
  refine g_lxor rfl ?_
  refine g_land rfl ?_
  refine g_lconst (n := 0) rfl ?_
  show sGo none 24 _ 11 [some (.ref p), some (.long x), none] [.long (Int64.ofNat 0), .long (x &&& ((c.2.1 2) ^^^ (Int64.ofNat 18446744073709551615)))] _ _
  refine g_lcmp rfl ?_
  refine g_if_ne 19 rfl rfl (fun c_1 => ?_) (fun c_1 => ?_)
  · skip
    rw [lc_eq] at c_1
    refine g_iconst (n := 0) rfl ?_
    refine g_ireturn (ty := .boolean) rfl rfl (by decide) ?_
    rw [g2] at c_1; exact ⟨rfl, Or.inr ⟨fun z => c_1 (key.mpr z), rfl⟩⟩
  · skip
    rw [lc_eq] at c_1
    refine g_iconst (n := 1) rfl ?_
    refine g_goto 20 rfl rfl ?_
    refine g_ireturn (ty := .boolean) rfl rfl (by decide) ?_
    rw [g2] at c_1; exact ⟨rfl, Or.inl ⟨key.mp c_1, rfl⟩⟩
theorem s_all12 {d : Nat} {h : sHp} {J : Nat → Int32} {W H : Nat} (hd : 1 ≤ d) (hr : h[60]? = some (mO J)) (g : gdM J W H) : sDo d 174 [.ref 60] h (fun r h' => h' = h ∧ r = some (.long (stO (fun _ => true) (W * H)))) := by
  have gd := g
  obtain ⟨gw, gh, w2, w8, h2, h8⟩ := gd
  have hn := gdM_n g
  have hw0 : (J 0).toInt = ((W : Nat) : Int) := by rw [gw]; exact ofN_toInt (by omega)
  have hw1 : (J 1).toInt = ((H : Nat) : Int) := by rw [gh]; exact ofN_toInt (by omega)
  have hwn : (J 0 * J 1).toInt = ((W * H : Nat) : Int) := n_mul hw0 hw1 (by omega)
  have e64 : (Int8.ofInt 64).toInt32.toInt = 64 := rfl
  have eWH : J 0 * J 1 = Int32.ofNat (W * H) := Int32.toInt_inj.mp (by rw [hwn, ofN_toInt (by omega)])
  refine sDo_of1 (nL := 1) (L := [some (.ref 60)]) (by omega) rfl rfl ?_
  refine g_aload_n (i := 0) rfl rfl ?_
  refine g_getfield (v := .int (J 0)) rfl hr (by decide) rfl ?_
  refine g_aload_n (i := 0) rfl rfl ?_
  refine g_getfield (v := .int (J 1)) rfl hr (by decide) rfl ?_
  refine g_imul rfl ?_
  refine g_bipush (n := 64) rfl ?_
  have k_2 : ((Int8.ofInt 64).toInt32).toInt = 64 := rfl
  refine g_icmp_ne 20 rfl rfl (fun c_1 => ?_) (fun c_1 => ?_)
  · skip
    rw [i_eq, hwn, k_2] at c_1
    refine g_lconst (n := 1) rfl ?_
    show sGo none 174 _ 21 [some (.ref 60)] [.long (Int64.ofNat 1)] _ _
    refine g_aload_n (i := 0) rfl rfl ?_
    refine g_getfield (v := .int (J 0)) rfl hr (by decide) rfl ?_
    refine g_aload_n (i := 0) rfl rfl ?_
    refine g_getfield (v := .int (J 1)) rfl hr (by decide) rfl ?_
    refine g_imul rfl ?_
    refine g_lshl rfl ?_
    refine g_lconst (n := 1) rfl ?_
    show sGo none 174 _ 32 [some (.ref 60)] [.long (Int64.ofNat 1), .long ((Int64.ofNat 1) <<< (((J 0) * (J 1)).toInt64 &&& 63))] _ _
    refine g_lsub rfl ?_
    refine g_lreturn rfl rfl ?_
    exact ⟨rfl, by rw [eWH]; exact congrArg (fun z => some (Value.long z)) (low_st _ (by omega))⟩
  · skip
    rw [i_eq, hwn, k_2] at c_1
    refine g_ldc2_w (j := 18446744073709551615) rfl ?_
    refine g_goto 33 rfl rfl ?_
    refine g_lreturn rfl rfl ?_
    exact ⟨rfl, by rw [show W * H = 64 by omega]; exact congrArg (fun z => some (Value.long z)) m1_st⟩
theorem s_isSet12 {d : Nat} {h : sHp} {J : Nat → Int32} {W H : Nat} {x : Int64} (hd : 2 ≤ d) (hr : h[60]? = some (mO J)) (g : gdM J W H) : sDo d 175 [.ref 60, .long x] h (fun r h' => h' = h ∧ (inN x (W * H) ∧ r = some (.int 1) ∨ ¬ inN x (W * H) ∧ r = some (.int 0))) := by
  have key := in_iff (x := x) (gdM_n g).1
  refine sDo_of1 (nL := 3) (L := [some (.ref 60), some (.long x), none]) (by omega) rfl rfl ?_
  refine g_lload_n (i := 1) rfl rfl ?_
  refine g_aload_n (i := 0) rfl rfl ?_
  refine g_virt0 (Qc := fun r h' => h' = h ∧ r = some (.long (stO (fun _ => true) (W * H)))) rfl (by decide) rfl hr rfl (Nat.le_of_ble_eq_true rfl) (s_all12 (by omega) hr g) (fun r h hq9 => ?_)
  obtain ⟨rfl, rfl⟩ := hq9
  refine g_ldc2_w (j := 18446744073709551615) rfl ?_
  refine g_lxor rfl ?_
  refine g_land rfl ?_
  refine g_lconst (n := 0) rfl ?_
  show sGo none 175 _ 11 [some (.ref 60), some (.long x), none] [.long (Int64.ofNat 0), .long (x &&& ((stO (fun _ => true) (W * H)) ^^^ (Int64.ofNat 18446744073709551615)))] _ _
  refine g_lcmp rfl ?_
  refine g_if_ne 19 rfl rfl (fun c_1 => ?_) (fun c_1 => ?_)
  · skip
    rw [lc_eq] at c_1
    refine g_iconst (n := 0) rfl ?_
    refine g_ireturn (ty := .boolean) rfl rfl (by decide) ?_
    exact ⟨rfl, Or.inr ⟨fun z => c_1 (key.mpr z), rfl⟩⟩
  · skip
    rw [lc_eq] at c_1
    refine g_iconst (n := 1) rfl ?_
    refine g_goto 20 rfl rfl ?_
    refine g_ireturn (ty := .boolean) rfl rfl (by decide) ?_
    exact ⟨rfl, Or.inl ⟨key.mp c_1, rfl⟩⟩
theorem s_parts11 {d : Nat} {h : sHp} {ik tf : Int32} {c : CF} {W H : Nat} {x : Int64} (hd : 4 ≤ d) (h0 : h[0]? = some (cO ik tf)) (F : FC h 5 c) (g : gdF c W H) : sDo d 140 [.ref 0, .long x] h (fun r h' => h' = h ∧ (inN x (W * H) ∧ r = some (.int (Int32.ofNat (ptS W (W * H) 64 x))) ∨ ¬ inN x (W * H) ∧ r = some (.int 0))) := by
  refine sDo_of1 (nL := 3) (L := [some (.ref 0), some (.long x), none]) (by omega) rfl rfl ?_
  refine g_aload_n (i := 0) rfl rfl ?_
  refine g_getfield (v := .ref 5) rfl h0 (by decide) rfl ?_
  refine g_lload_n (i := 1) rfl rfl ?_
  refine g_virt1 (Qc := fun r h' => h' = h ∧ (((inN x (W * H)) ∧ r = some (.int 1)) ∨ (¬ (inN x (W * H)) ∧ r = some (.int 0)))) rfl (by decide) rfl F.1 rfl (Nat.le_of_ble_eq_true rfl) (s_hasAll (by omega) F g) (fun r h hq9 => ?_)
  obtain ⟨rfl, ⟨c_1, rfl⟩ | ⟨c_1, rfl⟩⟩ := hq9
  · skip
    refine g_if_eq 22 rfl rfl (fun hc => absurd hc (by decide)) (fun _ => ?_)
    refine g_aload_n (i := 0) rfl rfl ?_
    refine g_getfield (v := .ref 5) rfl h0 (by decide) rfl ?_
    refine g_lload_n (i := 1) rfl rfl ?_
    refine g_virt1 (Qc := fun r h' => h' = h ∧ r = some (.int (Int32.ofNat (ptS W (W * H) 64 x)))) rfl (by decide) rfl F.1 rfl (Nat.le_of_ble_eq_true rfl) (s_pieces (by omega) F g c_1) (fun r h hq9 => ?_)
    obtain ⟨rfl, rfl⟩ := hq9
    refine g_goto 23 rfl rfl ?_
    refine g_ireturn (ty := .int) rfl rfl rfl ?_
    exact ⟨rfl, Or.inl ⟨c_1, rfl⟩⟩
  · skip
    refine g_if_eq 22 rfl rfl (fun _ => ?_) (fun hc => absurd hc (by decide))
    refine g_iconst (n := 0) rfl ?_
    refine g_ireturn (ty := .int) rfl rfl rfl ?_
    exact ⟨rfl, Or.inr ⟨c_1, rfl⟩⟩
theorem s_parts12 {d : Nat} {h : sHp} {J : Nat → Int32} {W H : Nat} {x : Int64} (hd : 5 ≤ d) (hr : h[60]? = some (mO J)) (g : gdM J W H) : sDo d 225 [.ref 60, .long x] h (fun r h' => h' = h ∧ (inN x (W * H) ∧ r = some (.int (Int32.ofNat (ptS W (W * H) 64 x))) ∨ ¬ inN x (W * H) ∧ r = some (.int 0))) := by
  refine sDo_of1 (nL := 3) (L := [some (.ref 60), some (.long x), none]) (by omega) rfl rfl ?_
  refine g_aload_n (i := 0) rfl rfl ?_
  refine g_lload_n (i := 1) rfl rfl ?_
  refine g_virt1 (Qc := fun r h' => h' = h ∧ (((inN x (W * H)) ∧ r = some (.int 1)) ∨ (¬ (inN x (W * H)) ∧ r = some (.int 0)))) rfl (by decide) rfl hr rfl (Nat.le_of_ble_eq_true rfl) (s_isSet12 (by omega) hr g) (fun r h hq9 => ?_)
  obtain ⟨rfl, ⟨c_1, rfl⟩ | ⟨c_1, rfl⟩⟩ := hq9
  · skip
    refine g_if_eq 16 rfl rfl (fun hc => absurd hc (by decide)) (fun _ => ?_)
    refine g_aload_n (i := 0) rfl rfl ?_
    refine g_lload_n (i := 1) rfl rfl ?_
    refine g_virt1 (Qc := fun r h' => h' = h ∧ r = some (.int (Int32.ofNat (ptS W (W * H) 64 x)))) rfl (by decide) rfl hr rfl (Nat.le_of_ble_eq_true rfl) (s_partsOf (by omega) hr g) (fun r h hq9 => ?_)
    obtain ⟨rfl, rfl⟩ := hq9
    refine g_goto 17 rfl rfl ?_
    refine g_ireturn (ty := .int) rfl rfl rfl ?_
    exact ⟨rfl, Or.inl ⟨c_1, rfl⟩⟩
  · skip
    refine g_if_eq 16 rfl rfl (fun _ => ?_) (fun hc => absurd hc (by decide))
    refine g_iconst (n := 0) rfl ?_
    refine g_ireturn (ty := .int) rfl rfl rfl ?_
    exact ⟨rfl, Or.inr ⟨c_1, rfl⟩⟩
theorem pr7_parts (x : Int64) : pairR bR7 140 225 [.long x] := pr_q (c1 := cn_X11_parts_0) (c2 := cn_X12_parts_0) ch_X11_parts_0 ch_X12_parts_0 (by decide +kernel) (by decide +kernel) (by decide +kernel) (by decide +kernel) rfl rfl (fun h hH => ⟨bt0 hH, vL0 x, trivial⟩) (fun h hH => ⟨bt60 hH, vL0 x, trivial⟩) (by decide +kernel) (by decide +kernel) (fun h hH hR => by
  obtain ⟨c, m, W, H, N, ik, tf, R, hd, so, sz, co, cl, f, gg, F, g, M, gM, h0, hR43, q4, bs, hN, c11, m6⟩ := un7 hH hR
  have q4' := q4
  obtain ⟨a1, a2, a3, a4, a5, a6, a7, a8⟩ := q4'
  by_cases hx : inN x (W * H)
  · refine ⟨_, sDo_mono (s_parts11 (d := 10) (by omega) h0 F g) (fun r h' q => ⟨(q.2.resolve_right (fun z => z.1 hx)).2, by rw [q.1]; exact vE_rfl⟩), fun h1 hH1 E => ?_⟩
    exact sDo_mono (s_parts12 (d := 10) (by omega) (vE_at E M.1 (by decide)) gM) (fun r h' q => (q.2.resolve_right (fun z => z.1 hx)).2)
  · refine ⟨_, sDo_mono (s_parts11 (d := 10) (by omega) h0 F g) (fun r h' q => ⟨(q.2.resolve_left (fun z => hx z.1)).2, by rw [q.1]; exact vE_rfl⟩), fun h1 hH1 E => ?_⟩
    exact sDo_mono (s_parts12 (d := 10) (by omega) (vE_at E M.1 (by decide)) gM) (fun r h' q => (q.2.resolve_left (fun z => hx z.1)).2))
