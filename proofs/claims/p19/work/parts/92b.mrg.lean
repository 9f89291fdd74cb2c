section
/-! ===== calls that change nothing of the relation ===== -/
def vE (h h1 : sHp) : Prop := h1.length = h.length ∧ ∀ q, (q < 38 ∨ 43 < q) → h1[q]? = h[q]?
theorem vE_rfl {h : sHp} : vE h h := ⟨rfl, fun _ _ => rfl⟩
theorem vE_43 {h : sHp} {c : va_E} : vE h (h.set 43 c) := ⟨List.length_set, fun q hq => s_set_ne (by omega)⟩
theorem vE_at {h h1 : sHp} {q : Nat} {x : va_E} (e : vE h h1) (hx : h[q]? = some x) (hq : q < 38 ∨ 43 < q) : h1[q]? = some x := (e.2 q hq).trans hx
theorem pr_q {c1 c2 : bCn} {as : List Value} (h1 : bHolds c1) (h2 : bHolds c2) (d1 : Nat.ble c1.2.1 10 = true) (d2 : Nat.ble c2.2.1 10 = true) (g1 : Nat.ble c1.2.2.2.2.2.1 1 = true) (g2 : Nat.ble c2.2.2.2.2.2.1 1 = true) (o1 : c1.2.2.2.1 = []) (o2 : c2.2.2.2.1 = []) (t1 : ∀ h, bH h → bTl h c1.2.2.1 (.ref 0 :: as)) (t2 : ∀ h, bH h → bTl h c2.2.2.1 (.ref 60 :: as)) (w1 : ∀ b ∈ bR7M, c1.2.2.2.2.1.testBit b = false) (w2 : ∀ b ∈ bR7M, c2.2.2.2.2.1.testBit b = false) (e : ∀ h, bH h → bR7 h → ∃ v, sDo 10 c1.1 (.ref 0 :: as) h (fun r h1 => r = some v ∧ vE h h1) ∧ ∀ h1, bH h1 → vE h h1 → sDo 10 c2.1 (.ref 60 :: as) h1 (fun r _ => r = some v)) : pairR bR7 c1.1 c2.1 as := pr_mk h1 h2 d1 d2 g1 g2 o1 o2 t1 t2 (fun h hH hR => by
  obtain ⟨v, e1, e2⟩ := e h hH hR
  exact sDo_mono e1 (fun r1 h1' q hH1 fr1 => sDo_mono (e2 h1' hH1 q.2) (fun r2 h2' p hH2 fr2 => ⟨bR7_fr hH2 fr2 w2 (bR7_fr hH1 fr1 w1 hR), v, q.1, p⟩)))
theorem un7 {h : sHp} (hH : bH h) (hR : bR7 h) : ∃ (c : CF) (m : MF) (W H N : Nat) (ik tf : Int32) (R : Nat → Int32) (hd so sz co : Nat → Int32) (cl : Nat → Int64) (f g : Nat → Option Nat), FC h 5 c ∧ gdF c W H ∧ MC h m ∧ gdM m.1 W H ∧ h[0]? = some (cO ik tf) ∧ h[43]? = some (rFc R) ∧ bR4 h hd so sz co cl f g ∧ (∀ s, s < 8 → bRS hd so sz co cl g h s) ∧ N ≤ 5 ∧ c.1 11 = Int32.ofNat N ∧ m.1 6 = Int32.ofNat N := by
  obtain ⟨⟨hd, so, sz, co, cl, f, g, q4, bs⟩, I, G, Ik, Gk, ik, tf, J, gk, ⟨q5, -, q0, x5, -, -⟩, ⟨⟨J', M60, eJ, -⟩, -⟩, -, rn, -⟩ := hR
  obtain ⟨⟨s1, s2, s3, s4, s5⟩, F, -⟩ := FC_ext5 hH q5 x5
  obtain ⟨⟨n1, n2, n3, n4, n5⟩, M⟩ := MC_ext hH M60
  obtain ⟨R, hR⟩ := RA_of hH (p := 43) (Or.inl rfl)
  obtain ⟨W, H, N, gd, hN, c11, m0, m1, m6, -⟩ := rn
  have gd' := gd
  obtain ⟨g0, g1, w2, w8, h2, h8, -⟩ := gd'
  exact ⟨(I, G, s1, s2, s3, s4, s5), (J', n1, n2, n3, n4, n5), W, H, N, ik, tf, R, hd, so, sz, co, cl, f, g, F, gd, M, ⟨(eJ 0 (by decide)).trans m0, (eJ 1 (by decide)).trans m1, w2, w8, h2, h8⟩, q0, hR, q4, bs, hN, c11, (eJ 6 (by decide)).trans m6⟩
theorem s_noCutX {d : Nat} {h : sHp} {fs : List Value} {f g : Nat → Option Nat} {s : Int32} {S : Nat} {ot z nc : Int32} (hf : h[0]? = some (.inr (11, fs))) (f0 : fs[0]? = some (.ref 1)) (f1 : fs[1]? = some (.ref 2)) (a1 : h[1]? = some (.inl (3, 8, .inr (.inr (.inr (.inr f)))))) (a2 : ∀ s, s < 8 → f s = some (44 + 2 * s)) (a3 : h[2]? = some (.inl (4, 8, .inr (.inr (.inr (.inr g)))))) (hs : s.toInt = S) (hS : S < 8) (b1 : h[44 + 2 * S]? = some (.inr (7, [.int ot, .int z, .ref (45 + 2 * S)]))) (hn : (¬ ot = -1 ∧ nc = -2) ∨ (g S = none ∧ ot = -1 ∧ nc = -3) ∨ (∃ p, g S = some p ∧ ot = -1 ∧ nc = 0)) : sDo (d + 2) 162 [.ref 0, .int s] h (fun r h' => h' = h ∧ r = some (.int nc)) := by
  have sn : s.toNatClampNeg = S := i_nat hs
  have fS : va_rf (f s.toNatClampNeg) = .ref (44 + 2 * S) := by rw [sn, a2 S hS]; rfl
  refine sDo_of (d := d + 1) (nL := 2) (L := [some (.ref 0), some (.int s)]) rfl rfl ?_
  refine g_iload_n (i := 1) rfl rfl ?_
  refine g_static1 (Qc := fun r h' => h' = h ∧ r = some (.int 1)) rfl (by decide) rfl (Nat.le_of_ble_eq_true rfl) (s_sh11 (by rw [if_pos (by omega)])) (fun r h9 hq9 => ?_)
  obtain ⟨rfl, rfl⟩ := hq9
  refine g_if_ne 9 rfl rfl (fun _ => ?_) (fun hc => absurd hc (by decide))
  refine g_aload_n (i := 0) rfl rfl ?_
  refine g_getfield (v := .ref 1) rfl hf (by decide) f0 ?_
  refine g_iload_n (i := 1) rfl rfl ?_
  refine g_aaload rfl a1 (by decide) (i_in (by omega) (by omega)) ?_
  rw [fS]
  rcases hn with ⟨ho, rfl⟩ | ⟨hg, ho, rfl⟩ | ⟨p, hg, ho, rfl⟩
  · skip
    refine g_virt0 (Qc := fun r h' => h' = h9 ∧ r = some (.int 1)) rfl (by decide) rfl b1 rfl (Nat.le_of_ble_eq_true rfl) (s_isHeld b1 (by rw [if_neg ho])) (fun r h8 hq9 => ?_)
    obtain ⟨rfl, rfl⟩ := hq9
    refine g_if_eq 24 rfl rfl (fun hc => absurd hc (by decide)) (fun _ => ?_)
    refine g_bipush (n := (-2)) rfl ?_
    refine g_ireturn (ty := .int) rfl rfl rfl ?_
    exact ⟨rfl, rfl⟩
  · skip
    refine g_virt0 (Qc := fun r h' => h' = h9 ∧ r = some (.int 0)) rfl (by decide) rfl b1 rfl (Nat.le_of_ble_eq_true rfl) (s_isHeld b1 (by rw [if_pos ho])) (fun r h8 hq9 => ?_)
    obtain ⟨rfl, rfl⟩ := hq9
    refine g_if_eq 24 rfl rfl (fun _ => ?_) (fun hc => absurd hc (by decide))
    refine g_aload_n (i := 0) rfl rfl ?_
    refine g_getfield (v := .ref 2) rfl hf (by decide) f1 ?_
    refine g_iload_n (i := 1) rfl rfl ?_
    have hgS : va_rf (g s.toNatClampNeg) = .null := by rw [sn, hg]; rfl
    refine g_aaload rfl a3 (by decide) (i_in (by omega) (by omega)) ?_
    rw [hgS]
    refine g_ifnullN 37 rfl rfl ?_
    refine g_bipush (n := (-3)) rfl ?_
    refine g_ireturn (ty := .int) rfl rfl rfl ?_
    exact ⟨rfl, rfl⟩
  · skip
    refine g_virt0 (Qc := fun r h' => h' = h9 ∧ r = some (.int 0)) rfl (by decide) rfl b1 rfl (Nat.le_of_ble_eq_true rfl) (s_isHeld b1 (by rw [if_pos ho])) (fun r h8 hq9 => ?_)
    obtain ⟨rfl, rfl⟩ := hq9
    refine g_if_eq 24 rfl rfl (fun _ => ?_) (fun hc => absurd hc (by decide))
    refine g_aload_n (i := 0) rfl rfl ?_
    refine g_getfield (v := .ref 2) rfl hf (by decide) f1 ?_
    refine g_iload_n (i := 1) rfl rfl ?_
    have hgS : va_rf (g s.toNatClampNeg) = .ref p := by rw [sn, hg]; rfl
    refine g_aaload rfl a3 (by decide) (i_in (by omega) (by omega)) ?_
    rw [hgS]
    refine g_ifnull 37 rfl rfl ?_
    refine g_iconst (n := 0) rfl ?_
    refine g_goto 39 rfl rfl ?_
    refine g_ireturn (ty := .int) rfl rfl rfl ?_
    exact ⟨rfl, rfl⟩
theorem s_noCutOX {d : Nat} {h : sHp} {s : Int32} (hs : ¬ (0 ≤ s.toInt ∧ s.toInt < 8)) : sDo (d + 2) 162 [.ref 0, .int s] h (fun r h' => h' = h ∧ r = some (.int (-1))) := by
  refine sDo_of (d := d + 1) (nL := 2) (L := [some (.ref 0), some (.int s)]) rfl rfl ?_
  refine g_iload_n (i := 1) rfl rfl ?_
  refine g_static1 (Qc := fun r h' => h' = h ∧ r = some (.int 0)) rfl (by decide) rfl (Nat.le_of_ble_eq_true rfl) (s_sh11 (by rw [if_neg hs])) (fun r h9 hq9 => ?_)
  obtain ⟨rfl, rfl⟩ := hq9
  refine g_if_ne 9 rfl rfl (fun hc => absurd hc (by decide)) (fun _ => ?_)
  refine g_iconst (n := (-1)) rfl ?_
  refine g_ireturn (ty := .int) rfl rfl rfl ?_
  exact ⟨rfl, rfl⟩
/-- what noCut says of a shelf -/
def ncS (hd : Nat → Int32) (S : Nat) : Int32 := if hd S = 2 then 0 else if hd S = 1 then -2 else -3
theorem s_noCutIn {d : Nat} {h : sHp} {ik tf : Int32} {hd so sz co : Nat → Int32} {cl : Nat → Int64} {f g : Nat → Option Nat} {s : Int32} {S : Nat} (hd2 : 2 ≤ d) (h0 : h[0]? = some (cO ik tf)) (q4 : bR4 h hd so sz co cl f g) (bs : ∀ s, s < 8 → bRS hd so sz co cl g h s) (hs : s.toInt = S) (hS : S < 8) : sDo d 162 [.ref 0, .int s] h (fun r h' => h' = h ∧ r = some (.int (ncS hd S))) := by
  obtain ⟨e, rfl⟩ : ∃ e, d = e + 2 := ⟨d - 2, by omega⟩
  obtain ⟨ot, z, el, b1, -, b3⟩ := bs S hS
  obtain ⟨a1, a2, a3, -⟩ := q4
  refine s_noCutX h0 rfl rfl a1 a2 a3 hs hS b1 ?_
  unfold ncS
  rcases b3 with ⟨x1, x2, x3⟩ | ⟨x1, x2, x3, x4, -⟩ | ⟨x1, x2, pc, x3, x4, -⟩
  · exact Or.inr (Or.inl ⟨x2, x3, by rw [x1]; rfl⟩)
  · refine Or.inl ⟨fun z => ?_, by rw [x1]; rfl⟩
    rw [z] at x4
    exact absurd x4 (by decide)
  · exact Or.inr (Or.inr ⟨pc, x4, x2, by rw [x1]; rfl⟩)
theorem nc_b {hd : Nat → Int32} {S : Nat} (h1 : hd S = 0 ∨ hd S = 1) : ∃ B : Nat, (2 ≤ B ∧ B ≤ 3) ∧ (ncS hd S).toInt = -(B : Int) := by
  unfold ncS
  rcases h1 with e | e
  · rw [e]; exact ⟨3, by decide, by decide⟩
  · rw [e]; exact ⟨2, by decide, by decide⟩
theorem hd_3 {hd so sz co : Nat → Int32} {cl : Nat → Int64} {g : Nat → Option Nat} {h : sHp} {S : Nat} (b : bRS hd so sz co cl g h S) : hd S = 0 ∨ hd S = 1 ∨ hd S = 2 := by
  obtain ⟨ot, z, el, -, -, b3⟩ := b
  rcases b3 with ⟨e, -⟩ | ⟨e, -⟩ | ⟨e, -⟩
  · exact Or.inl e
  · exact Or.inr (Or.inl e)
  · exact Or.inr (Or.inr e)
/-- a shelf with a cut: its cell, its code as a number -/
theorem cut_at {hd so sz co : Nat → Int32} {cl : Nat → Int64} {g : Nat → Option Nat} {h : sHp} {S : Nat} (b : bRS hd so sz co cl g h S) (h2 : hd S = 2) : ∃ (pc C : Nat), 79 ≤ pc ∧ g S = some pc ∧ h[pc]? = some (.inr (bKl7 (C / 1000), cutFs (Int32.ofNat S) (co S))) ∧ C < 7000 ∧ (co S).toInt = C := by
  obtain ⟨ot, z, el, -, -, b3⟩ := b
  rcases b3 with ⟨e, -⟩ | ⟨e, -⟩ | ⟨-, -, pc, x3, x4, x5, x6, x7⟩
  · rw [h2] at e; exact absurd e (by decide)
  · rw [h2] at e; exact absurd e (by decide)
  · refine ⟨pc, (co S).toInt.toNat, x3, x4, ?_, by omega, by omega⟩
    have e : bKi (co S) = bKl7 ((co S).toInt.toNat / 1000) := by
      unfold bKi bKl7
      rw [show ((co S).toInt / 1000).toNat = (co S).toInt.toNat / 1000 by omega]
    rw [← e]
    exact x5
theorem s_side11c {d : Nat} {h : sHp} {ik tf : Int32} {c : CF} {W H : Nat} {gg : Nat → Option Nat} {s x : Int32} {S pc C : Nat} {side : Int32} (hd : 6 ≤ d) (h0 : h[0]? = some (cO ik tf)) (F : FC h 5 c) (g : gdF c W H) (a3 : h[2]? = some (.inl (4, 8, .inr (.inr (.inr (.inr gg)))))) (hs : s.toInt = S) (hS : S < 8) (hg : gg S = some pc) (hc : C < 7000) (a : h[pc]? = some (.inr (bKl7 (C / 1000), cutFs (Int32.ofNat S) x))) (hx : x.toInt = C) (hno : sDo (d - 1) 162 [.ref 0, .int s] h (fun r h' => h' = h ∧ r = some (.int 0))) : sDo d 121 [.ref 0, .int s, .int side] h (fun r h' => h' = h ∧ r = some (.long (sdS W (W * H) C side.toInt))) := by
  refine sDo_of1 (nL := 3) (L := [some (.ref 0), some (.int s), some (.int side)]) (by omega) rfl rfl ?_
  refine g_aload_n (i := 0) rfl rfl ?_
  refine g_iload_n (i := 1) rfl rfl ?_
  refine g_virt1 (Qc := fun r h' => h' = h ∧ r = some (.int (0))) rfl (by decide) rfl h0 rfl (Nat.le_of_ble_eq_true rfl) (hno) (fun r h hq9 => ?_)
  obtain ⟨rfl, rfl⟩ := hq9
  refine g_if_ne 22 rfl rfl (fun hc => absurd hc (by decide)) (fun _ => ?_)
  refine g_aload_n (i := 0) rfl rfl ?_
  refine g_aload_n (i := 0) rfl rfl ?_
  refine g_getfield (v := .ref 2) rfl h0 (by decide) rfl ?_
  refine g_iload_n (i := 1) rfl rfl ?_
  have gS : va_rf (gg s.toNatClampNeg) = .ref pc := by rw [i_nat hs, hg]; rfl
  refine g_aaload rfl a3 (by decide) (i_in (by omega) (by omega)) ?_
  rw [gS]
  refine g_iload_n (i := 2) rfl rfl ?_
  have hsd := s_sideOf11 (d := d - 1) (side := side) (by omega) h0 rfl F g hc rfl a hx
  refine g_virt2 (Qc := fun r h' => h' = h ∧ r = some (.long (sdS W (W * H) C side.toInt))) rfl (by decide) rfl h0 rfl (Nat.le_of_ble_eq_true rfl) (hsd) (fun r h hq9 => ?_)
  obtain ⟨rfl, rfl⟩ := hq9
  refine g_goto 23 rfl rfl ?_
  refine g_lreturn rfl rfl ?_
  exact ⟨rfl, rfl⟩
theorem s_side11n {d : Nat} {h : sHp} {ik tf s side b : Int32} (hd : 2 ≤ d) (h0 : h[0]? = some (cO ik tf)) (hb : ¬ b = 0) (hno : sDo (d - 1) 162 [.ref 0, .int s] h (fun r h' => h' = h ∧ r = some (.int b))) : sDo d 121 [.ref 0, .int s, .int side] h (fun r h' => h' = h ∧ r = some (.long (Int64.ofNat 0))) := by
  refine sDo_of1 (nL := 3) (L := [some (.ref 0), some (.int s), some (.int side)]) (by omega) rfl rfl ?_
  refine g_aload_n (i := 0) rfl rfl ?_
  refine g_iload_n (i := 1) rfl rfl ?_
  refine g_virt1 (Qc := fun r h' => h' = h ∧ r = some (.int (b))) rfl (by decide) rfl h0 rfl (Nat.le_of_ble_eq_true rfl) (hno) (fun r h hq9 => ?_)
  obtain ⟨rfl, rfl⟩ := hq9
  refine g_if_ne 22 rfl rfl (fun _ => ?_) (fun hc => absurd hc (by exact hb))
  refine g_lconst (n := 0) rfl ?_
  show sGo none 121 _ 23 [some (.ref 0), some (.int s), some (.int side)] [.long (Int64.ofNat 0)] _ _
  refine g_lreturn rfl rfl ?_
  exact ⟨rfl, rfl⟩
theorem s_side12c {d : Nat} {h : sHp} {J hd co : Nat → Int32} {W H : Nat} {s side : Int32} {S C : Nat} (hd1 : 3 ≤ d) (hr : h[60]? = some (mO J)) (a4 : h[67]? = some (.inl (0, 8, .inl hd))) (g : gdM J W H) (a7 : h[70]? = some (.inl (0, 8, .inl co))) (hs : s.toInt = S) (hS : S < 8) (h2 : hd S = 2) (hC : (co S).toInt = C) (hc : C < 7000) : sDo d 188 [.ref 60, .int s, .int side] h (fun r h' => h' = h ∧ r = some (.long (sdS W (W * H) C side.toInt))) := by
  have e2 : (hd S).toInt = 2 := by rw [h2]; rfl
  have hn := gdM_n g
  refine sDo_of1 (nL := 3) (L := [some (.ref 60), some (.int s), some (.int side)]) (by omega) rfl rfl ?_
  refine g_aload_n (i := 0) rfl rfl ?_
  refine g_iload_n (i := 1) rfl rfl ?_
  refine g_virt1 (Qc := fun r h' => h' = h ∧ (((0 ≤ s.toInt ∧ s.toInt < 8) ∧ r = some (.int 1)) ∨ (¬ (0 ≤ s.toInt ∧ s.toInt < 8) ∧ r = some (.int 0)))) rfl (by decide) rfl hr rfl (Nat.le_of_ble_eq_true rfl) (s_sh12z (by omega)) (fun r h hq9 => ?_)
  obtain ⟨rfl, ⟨c_1, rfl⟩ | ⟨c_1, rfl⟩⟩ := hq9
  · skip
    refine g_if_eq 41 rfl rfl (fun hc => absurd hc (by decide)) (fun _ => ?_)
    refine g_aload_n (i := 0) rfl rfl ?_
    refine g_getfield (v := .ref 67) rfl hr (by decide) rfl ?_
    refine g_iload_n (i := 1) rfl rfl ?_
    refine g_iaload (n := 8) (f := hd) rfl a4 (i_in (by omega) (by omega)) ?_
    rw [i_nat hs]
    refine g_iconst (n := 2) rfl ?_
    have k_3 : (Int32.ofInt 2).toInt = 2 := rfl
    refine g_icmp_ne 41 rfl rfl (fun c_2 => ?_) (fun c_2 => ?_)
    · skip
      rw [i_eq, e2, k_3] at c_2
      refine g_lconst (n := 0) rfl ?_
      show sGo none 188 _ 42 [some (.ref 60), some (.int s), some (.int side)] [.long (Int64.ofNat 0)] _ _
      refine g_lreturn rfl rfl ?_
      exact ⟨rfl, congrArg (fun z => some (Value.long z)) (sdS_o hn.1 (by omega))⟩
    · skip
      rw [i_eq, e2, k_3] at c_2
      refine g_iload_n (i := 2) rfl rfl ?_
      have k_5 : (0 : Int32).toInt = 0 := rfl
      refine g_if_lt 41 rfl rfl (fun c_4 => ?_) (fun c_4 => ?_)
      · skip
        rw [i_lt, k_5] at c_4
        refine g_lconst (n := 0) rfl ?_
        show sGo none 188 _ 42 [some (.ref 60), some (.int s), some (.int side)] [.long (Int64.ofNat 0)] _ _
        refine g_lreturn rfl rfl ?_
        exact ⟨rfl, congrArg (fun z => some (Value.long z)) (sdS_o hn.1 (by omega))⟩
      · skip
        rw [i_lt, k_5] at c_4
        refine g_iload_n (i := 2) rfl rfl ?_
        refine g_iconst (n := 3) rfl ?_
        have k_7 : (Int32.ofInt 3).toInt = 3 := rfl
        refine g_icmp_ge 41 rfl rfl (fun c_6 => ?_) (fun c_6 => ?_)
        · skip
          rw [i_le, k_7] at c_6
          refine g_lconst (n := 0) rfl ?_
          show sGo none 188 _ 42 [some (.ref 60), some (.int s), some (.int side)] [.long (Int64.ofNat 0)] _ _
          refine g_lreturn rfl rfl ?_
          exact ⟨rfl, congrArg (fun z => some (Value.long z)) (sdS_o hn.1 (by omega))⟩
        · skip
          rw [i_le, k_7] at c_6
          refine g_aload_n (i := 0) rfl rfl ?_
          refine g_aload_n (i := 0) rfl rfl ?_
          refine g_getfield (v := .ref 70) rfl hr (by decide) rfl ?_
          refine g_iload_n (i := 1) rfl rfl ?_
          refine g_iaload (n := 8) (f := co) rfl a7 (i_in (by omega) (by omega)) ?_
          rw [i_nat hs]
          refine g_iload_n (i := 2) rfl rfl ?_
          refine g_virt2 (Qc := fun r h' => h' = h ∧ r = some (.long (sdS W (W * H) C side.toInt))) rfl (by decide) rfl hr rfl (Nat.le_of_ble_eq_true rfl) (s_sideOf12 (by omega) hr g hC hc) (fun r h hq9 => ?_)
          obtain ⟨rfl, rfl⟩ := hq9
          refine g_goto 42 rfl rfl ?_
          refine g_lreturn rfl rfl ?_
          exact ⟨rfl, rfl⟩
  · skip
    omega
theorem s_side12n {d : Nat} {h : sHp} {J hd : Nat → Int32} {s side : Int32} (hd1 : 3 ≤ d) (hr : h[60]? = some (mO J)) (a4 : h[67]? = some (.inl (0, 8, .inl hd))) (hn : ¬ ((0 ≤ s.toInt ∧ s.toInt < 8) ∧ hd s.toInt.toNat = 2)) : sDo d 188 [.ref 60, .int s, .int side] h (fun r h' => h' = h ∧ r = some (.long (Int64.ofNat 0))) := by
  refine sDo_of1 (nL := 3) (L := [some (.ref 60), some (.int s), some (.int side)]) (by omega) rfl rfl ?_
  refine g_aload_n (i := 0) rfl rfl ?_
  refine g_iload_n (i := 1) rfl rfl ?_
  refine g_virt1 (Qc := fun r h' => h' = h ∧ (((0 ≤ s.toInt ∧ s.toInt < 8) ∧ r = some (.int 1)) ∨ (¬ (0 ≤ s.toInt ∧ s.toInt < 8) ∧ r = some (.int 0)))) rfl (by decide) rfl hr rfl (Nat.le_of_ble_eq_true rfl) (s_sh12z (by omega)) (fun r h hq9 => ?_)
  obtain ⟨rfl, ⟨c_1, rfl⟩ | ⟨c_1, rfl⟩⟩ := hq9
  · skip
    obtain ⟨S, hs⟩ : ∃ S : Nat, s.toInt = S := ⟨s.toInt.toNat, by omega⟩
    have e2 : ¬ (hd S).toInt = 2 := fun z => hn ⟨c_1, by rw [show s.toInt.toNat = S by omega]; exact Int32.toInt_inj.mp (by rw [z]; rfl)⟩
    refine g_if_eq 41 rfl rfl (fun hc => absurd hc (by decide)) (fun _ => ?_)
    refine g_aload_n (i := 0) rfl rfl ?_
    refine g_getfield (v := .ref 67) rfl hr (by decide) rfl ?_
    refine g_iload_n (i := 1) rfl rfl ?_
    refine g_iaload (n := 8) (f := hd) rfl a4 (i_in (by omega) (by omega)) ?_
    rw [i_nat hs]
    refine g_iconst (n := 2) rfl ?_
    refine g_icmp_ne 41 rfl rfl (fun _ => ?_) (fun hc => absurd hc (by rw [i_eq]; exact e2))
    refine g_lconst (n := 0) rfl ?_
    show sGo none 188 _ 42 [some (.ref 60), some (.int s), some (.int side)] [.long (Int64.ofNat 0)] _ _
    refine g_lreturn rfl rfl ?_
    exact ⟨rfl, rfl⟩
  · skip
    refine g_if_eq 41 rfl rfl (fun _ => ?_) (fun hc => absurd hc (by decide))
    refine g_lconst (n := 0) rfl ?_
    show sGo none 188 _ 42 [some (.ref 60), some (.int s), some (.int side)] [.long (Int64.ofNat 0)] _ _
    refine g_lreturn rfl rfl ?_
    exact ⟨rfl, rfl⟩
theorem pr7_side (s : Int32) (side : Int32) : pairR bR7 121 188 [.int s, .int side] := pr_q (c1 := cn_X11_side_0) (c2 := cn_X12_side_0) ch_X11_side_0 ch_X12_side_0 (by decide +kernel) (by decide +kernel) (by decide +kernel) (by decide +kernel) rfl rfl (fun h hH => ⟨bt0 hH, vI0 s, vI0 side, trivial⟩) (fun h hH => ⟨bt60 hH, vI0 s, vI0 side, trivial⟩) (by decide +kernel) (by decide +kernel) (fun h hH hR => by
  obtain ⟨c, m, W, H, N, ik, tf, R, hd, so, sz, co, cl, f, gg, F, g, M, gM, h0, hR43, q4, bs, hN, c11, m6⟩ := un7 hH hR
  have q4' := q4
  obtain ⟨a1, a2, a3, a4, a5, a6, a7, a8⟩ := q4'
  by_cases hS : 0 ≤ s.toInt ∧ s.toInt < 8
  · obtain ⟨S, hs⟩ : ∃ S : Nat, s.toInt = S := ⟨s.toInt.toNat, by omega⟩
    have hno := s_noCutIn (d := 9) (by omega) h0 q4 bs hs (by omega)
    by_cases h2 : hd S = 2
    · obtain ⟨pc, C, -, hg, a, hc, hx⟩ := cut_at (bs S (by omega)) h2
      unfold ncS at hno
      rw [if_pos h2] at hno
      refine ⟨_, sDo_mono (s_side11c (d := 10) (side := side) (by omega) h0 F g a3 hs (by omega) hg hc a hx hno) (fun r h' q => ⟨q.2, by rw [q.1]; exact vE_rfl⟩), fun h1 hH1 E => ?_⟩
      exact sDo_mono (s_side12c (d := 10) (by omega) (vE_at E M.1 (by decide)) (vE_at E a4 (by decide)) gM (vE_at E a7 (by decide)) hs (by omega) h2 hx hc) (fun r h' q => q.2)
    · have hb : ¬ ncS hd S = 0 := fun z => by
        rcases hd_3 (bs S (by omega)) with e | e | e
        · unfold ncS at z; rw [e] at z; exact absurd z (by decide)
        · unfold ncS at z; rw [e] at z; exact absurd z (by decide)
        · exact h2 e
      refine ⟨_, sDo_mono (s_side11n (d := 10) (by omega) h0 hb hno) (fun r h' q => ⟨q.2, by rw [q.1]; exact vE_rfl⟩), fun h1 hH1 E => ?_⟩
      exact sDo_mono (s_side12n (d := 10) (by omega) (vE_at E M.1 (by decide)) (vE_at E a4 (by decide)) (fun z => h2 (by rw [show S = s.toInt.toNat by omega]; exact z.2))) (fun r h' q => q.2)
  · refine ⟨_, sDo_mono (s_side11n (d := 10) (by omega) h0 (show ¬ (-1 : Int32) = 0 by decide) (s_noCutOX (d := 7) hS)) (fun r h' q => ⟨q.2, by rw [q.1]; exact vE_rfl⟩), fun h1 hH1 E => ?_⟩
    exact sDo_mono (s_side12n (d := 10) (by omega) (vE_at E M.1 (by decide)) (vE_at E a4 (by decide)) (fun z => hS z.1)) (fun r h' q => q.2))
theorem low_st : ∀ n, n < 64 → (Int64.ofNat 1 <<< ((Int32.ofNat n).toInt64 &&& 63)) - Int64.ofNat 1 = stO (fun _ => true) n := by decide +kernel
theorem m1_st : lM1 = stO (fun _ => true) 64 := bt_ext (fun i hi => by rw [bt_m1, bt_stO _ _ (by decide), Bool.and_true])
theorem in_iff {x : Int64} {n : Nat} (hn : n ≤ 64) : x &&& (stO (fun _ => true) n ^^^ lM1) = Int64.ofNat 0 ↔ inN x n := by
  rw [bt_eq0]
  unfold inN
  refine forall_congr' (fun i => forall_congr' (fun hi => ?_))
  rw [bt_and, bt_not, bt_stO _ _ hn, decide_eq_true hi, Bool.and_true, Bool.true_and]
  cases bt x i
  · exact ⟨fun _ z => absurd z (by decide), fun _ => rfl⟩
  · rw [Bool.true_and, Bool.not_eq_false', decide_eq_true_eq]
    exact ⟨fun z _ => z, fun z => z rfl⟩
theorem s_hasAll {d : Nat} {h : sHp} {p : Nat} {c : CF} {W H : Nat} {x : Int64} (hd : 1 ≤ d) (F : FC h p c) (g : gdF c W H) : sDo d 24 [.ref p, .long x] h (fun r h' => h' = h ∧ (inN x (W * H) ∧ r = some (.int 1) ∨ ¬ inN x (W * H) ∧ r = some (.int 0))) := by
  have g2 := g.2.2.2.2.2.2.1
  have key := in_iff (x := x) (gdF_n g).1
  refine sDo_of1 (nL := 3) (L := [some (.ref p), some (.long x), none]) hd rfl rfl ?_
  refine g_lload_n (i := 1) rfl rfl ?_
  refine g_aload_n (i := 0) rfl rfl ?_
  refine g_getfield (v := .long (c.2.1 2)) rfl F.1 (by decide) rfl ?_
  refine g_ldc2_w (j := 18446744073709551615) rfl ?_
  refine g_lxor rfl ?_
  refine g_land rfl ?_
  refine g_lconst (n := 0) rfl ?_
  show sGo none 24 _ 11 [some (.ref p), some (.long x), none] [.long (Int64.ofNat 0), .long (x &&& ((c.2.1 2) ^^^ (Int64.ofNat 18446744073709551615)))] _ _
  refine g_lcmp rfl ?_
  refine g_if_ne 19 rfl rfl (fun c_1 => ?_) (fun c_1 => ?_)
  · skip
    rw [lc_eq] at c_1
    refine g_iconst (n := 0) rfl ?_
    refine g_ireturn (ty := .boolean) rfl rfl (by decide) ?_
    rw [g2] at c_1; exact ⟨rfl, Or.inr ⟨fun z => c_1 (key.mpr z), rfl⟩⟩
  · skip
    rw [lc_eq] at c_1
    refine g_iconst (n := 1) rfl ?_
    refine g_goto 20 rfl rfl ?_
    refine g_ireturn (ty := .boolean) rfl rfl (by decide) ?_
    rw [g2] at c_1; exact ⟨rfl, Or.inl ⟨key.mp c_1, rfl⟩⟩
theorem s_all12 {d : Nat} {h : sHp} {J : Nat → Int32} {W H : Nat} (hd : 1 ≤ d) (hr : h[60]? = some (mO J)) (g : gdM J W H) : sDo d 174 [.ref 60] h (fun r h' => h' = h ∧ r = some (.long (stO (fun _ => true) (W * H)))) := by
  have gd := g
  obtain ⟨gw, gh, w2, w8, h2, h8⟩ := gd
  have hn := gdM_n g
  have hw0 : (J 0).toInt = ((W : Nat) : Int) := by rw [gw]; exact ofN_toInt (by omega)
  have hw1 : (J 1).toInt = ((H : Nat) : Int) := by rw [gh]; exact ofN_toInt (by omega)
  have hwn : (J 0 * J 1).toInt = ((W * H : Nat) : Int) := n_mul hw0 hw1 (by omega)
  have e64 : (Int8.ofInt 64).toInt32.toInt = 64 := rfl
  have eWH : J 0 * J 1 = Int32.ofNat (W * H) := Int32.toInt_inj.mp (by rw [hwn, ofN_toInt (by omega)])
  refine sDo_of1 (nL := 1) (L := [some (.ref 60)]) (by omega) rfl rfl ?_
  refine g_aload_n (i := 0) rfl rfl ?_
  refine g_getfield (v := .int (J 0)) rfl hr (by decide) rfl ?_
  refine g_aload_n (i := 0) rfl rfl ?_
  refine g_getfield (v := .int (J 1)) rfl hr (by decide) rfl ?_
  refine g_imul rfl ?_
  refine g_bipush (n := 64) rfl ?_
  have k_2 : ((Int8.ofInt 64).toInt32).toInt = 64 := rfl
  refine g_icmp_ne 20 rfl rfl (fun c_1 => ?_) (fun c_1 => ?_)
  · skip
    rw [i_eq, hwn, k_2] at c_1
    refine g_lconst (n := 1) rfl ?_
    show sGo none 174 _ 21 [some (.ref 60)] [.long (Int64.ofNat 1)] _ _
    refine g_aload_n (i := 0) rfl rfl ?_
    refine g_getfield (v := .int (J 0)) rfl hr (by decide) rfl ?_
    refine g_aload_n (i := 0) rfl rfl ?_
    refine g_getfield (v := .int (J 1)) rfl hr (by decide) rfl ?_
    refine g_imul rfl ?_
    refine g_lshl rfl ?_
    refine g_lconst (n := 1) rfl ?_
    show sGo none 174 _ 32 [some (.ref 60)] [.long (Int64.ofNat 1), .long ((Int64.ofNat 1) <<< (((J 0) * (J 1)).toInt64 &&& 63))] _ _
    refine g_lsub rfl ?_
    refine g_lreturn rfl rfl ?_
    exact ⟨rfl, by rw [eWH]; exact congrArg (fun z => some (Value.long z)) (low_st _ (by omega))⟩
  · skip
    rw [i_eq, hwn, k_2] at c_1
    refine g_ldc2_w (j := 18446744073709551615) rfl ?_
    refine g_goto 33 rfl rfl ?_
    refine g_lreturn rfl rfl ?_
    exact ⟨rfl, by rw [show W * H = 64 by omega]; exact congrArg (fun z => some (Value.long z)) m1_st⟩
theorem s_isSet12 {d : Nat} {h : sHp} {J : Nat → Int32} {W H : Nat} {x : Int64} (hd : 2 ≤ d) (hr : h[60]? = some (mO J)) (g : gdM J W H) : sDo d 175 [.ref 60, .long x] h (fun r h' => h' = h ∧ (inN x (W * H) ∧ r = some (.int 1) ∨ ¬ inN x (W * H) ∧ r = some (.int 0))) := by
  have key := in_iff (x := x) (gdM_n g).1
  refine sDo_of1 (nL := 3) (L := [some (.ref 60), some (.long x), none]) (by omega) rfl rfl ?_
  refine g_lload_n (i := 1) rfl rfl ?_
  refine g_aload_n (i := 0) rfl rfl ?_
  refine g_virt0 (Qc := fun r h' => h' = h ∧ r = some (.long (stO (fun _ => true) (W * H)))) rfl (by decide) rfl hr rfl (Nat.le_of_ble_eq_true rfl) (s_all12 (by omega) hr g) (fun r h hq9 => ?_)
  obtain ⟨rfl, rfl⟩ := hq9
  refine g_ldc2_w (j := 18446744073709551615) rfl ?_
  refine g_lxor rfl ?_
  refine g_land rfl ?_
  refine g_lconst (n := 0) rfl ?_
  show sGo none 175 _ 11 [some (.ref 60), some (.long x), none] [.long (Int64.ofNat 0), .long (x &&& ((stO (fun _ => true) (W * H)) ^^^ (Int64.ofNat 18446744073709551615)))] _ _
  refine g_lcmp rfl ?_
  refine g_if_ne 19 rfl rfl (fun c_1 => ?_) (fun c_1 => ?_)
  · skip
    rw [lc_eq] at c_1
    refine g_iconst (n := 0) rfl ?_
    refine g_ireturn (ty := .boolean) rfl rfl (by decide) ?_
    exact ⟨rfl, Or.inr ⟨fun z => c_1 (key.mpr z), rfl⟩⟩
  · skip
    rw [lc_eq] at c_1
    refine g_iconst (n := 1) rfl ?_
    refine g_goto 20 rfl rfl ?_
    refine g_ireturn (ty := .boolean) rfl rfl (by decide) ?_
    exact ⟨rfl, Or.inl ⟨key.mp c_1, rfl⟩⟩
theorem s_parts11 {d : Nat} {h : sHp} {ik tf : Int32} {c : CF} {W H : Nat} {x : Int64} (hd : 4 ≤ d) (h0 : h[0]? = some (cO ik tf)) (F : FC h 5 c) (g : gdF c W H) : sDo d 140 [.ref 0, .long x] h (fun r h' => h' = h ∧ (inN x (W * H) ∧ r = some (.int (Int32.ofNat (ptS W (W * H) 64 x))) ∨ ¬ inN x (W * H) ∧ r = some (.int 0))) := by
  refine sDo_of1 (nL := 3) (L := [some (.ref 0), some (.long x), none]) (by omega) rfl rfl ?_
  refine g_aload_n (i := 0) rfl rfl ?_
  refine g_getfield (v := .ref 5) rfl h0 (by decide) rfl ?_
  refine g_lload_n (i := 1) rfl rfl ?_
  refine g_virt1 (Qc := fun r h' => h' = h ∧ (((inN x (W * H)) ∧ r = some (.int 1)) ∨ (¬ (inN x (W * H)) ∧ r = some (.int 0)))) rfl (by decide) rfl F.1 rfl (Nat.le_of_ble_eq_true rfl) (s_hasAll (by omega) F g) (fun r h hq9 => ?_)
  obtain ⟨rfl, ⟨c_1, rfl⟩ | ⟨c_1, rfl⟩⟩ := hq9
  · skip
    refine g_if_eq 22 rfl rfl (fun hc => absurd hc (by decide)) (fun _ => ?_)
    refine g_aload_n (i := 0) rfl rfl ?_
    refine g_getfield (v := .ref 5) rfl h0 (by decide) rfl ?_
    refine g_lload_n (i := 1) rfl rfl ?_
    refine g_virt1 (Qc := fun r h' => h' = h ∧ r = some (.int (Int32.ofNat (ptS W (W * H) 64 x)))) rfl (by decide) rfl F.1 rfl (Nat.le_of_ble_eq_true rfl) (s_pieces (by omega) F g c_1) (fun r h hq9 => ?_)
    obtain ⟨rfl, rfl⟩ := hq9
    refine g_goto 23 rfl rfl ?_
    refine g_ireturn (ty := .int) rfl rfl rfl ?_
    exact ⟨rfl, Or.inl ⟨c_1, rfl⟩⟩
  · skip
    refine g_if_eq 22 rfl rfl (fun _ => ?_) (fun hc => absurd hc (by decide))
    refine g_iconst (n := 0) rfl ?_
    refine g_ireturn (ty := .int) rfl rfl rfl ?_
    exact ⟨rfl, Or.inr ⟨c_1, rfl⟩⟩
theorem s_parts12 {d : Nat} {h : sHp} {J : Nat → Int32} {W H : Nat} {x : Int64} (hd : 5 ≤ d) (hr : h[60]? = some (mO J)) (g : gdM J W H) : sDo d 225 [.ref 60, .long x] h (fun r h' => h' = h ∧ (inN x (W * H) ∧ r = some (.int (Int32.ofNat (ptS W (W * H) 64 x))) ∨ ¬ inN x (W * H) ∧ r = some (.int 0))) := by
  refine sDo_of1 (nL := 3) (L := [some (.ref 60), some (.long x), none]) (by omega) rfl rfl ?_
  refine g_aload_n (i := 0) rfl rfl ?_
  refine g_lload_n (i := 1) rfl rfl ?_
  refine g_virt1 (Qc := fun r h' => h' = h ∧ (((inN x (W * H)) ∧ r = some (.int 1)) ∨ (¬ (inN x (W * H)) ∧ r = some (.int 0)))) rfl (by decide) rfl hr rfl (Nat.le_of_ble_eq_true rfl) (s_isSet12 (by omega) hr g) (fun r h hq9 => ?_)
  obtain ⟨rfl, ⟨c_1, rfl⟩ | ⟨c_1, rfl⟩⟩ := hq9
  · skip
    refine g_if_eq 16 rfl rfl (fun hc => absurd hc (by decide)) (fun _ => ?_)
    refine g_aload_n (i := 0) rfl rfl ?_
    refine g_lload_n (i := 1) rfl rfl ?_
    refine g_virt1 (Qc := fun r h' => h' = h ∧ r = some (.int (Int32.ofNat (ptS W (W * H) 64 x)))) rfl (by decide) rfl hr rfl (Nat.le_of_ble_eq_true rfl) (s_partsOf (by omega) hr g) (fun r h hq9 => ?_)
    obtain ⟨rfl, rfl⟩ := hq9
    refine g_goto 17 rfl rfl ?_
    refine g_ireturn (ty := .int) rfl rfl rfl ?_
    exact ⟨rfl, Or.inl ⟨c_1, rfl⟩⟩
  · skip
    refine g_if_eq 16 rfl rfl (fun _ => ?_) (fun hc => absurd hc (by decide))
    refine g_iconst (n := 0) rfl ?_
    refine g_ireturn (ty := .int) rfl rfl rfl ?_
    exact ⟨rfl, Or.inr ⟨c_1, rfl⟩⟩
theorem pr7_parts (x : Int64) : pairR bR7 140 225 [.long x] := pr_q (c1 := cn_X11_parts_0) (c2 := cn_X12_parts_0) ch_X11_parts_0 ch_X12_parts_0 (by decide +kernel) (by decide +kernel) (by decide +kernel) (by decide +kernel) rfl rfl (fun h hH => ⟨bt0 hH, vL0 x, trivial⟩) (fun h hH => ⟨bt60 hH, vL0 x, trivial⟩) (by decide +kernel) (by decide +kernel) (fun h hH hR => by
  obtain ⟨c, m, W, H, N, ik, tf, R, hd, so, sz, co, cl, f, gg, F, g, M, gM, h0, hR43, q4, bs, hN, c11, m6⟩ := un7 hH hR
  have q4' := q4
  obtain ⟨a1, a2, a3, a4, a5, a6, a7, a8⟩ := q4'
  by_cases hx : inN x (W * H)
  · refine ⟨_, sDo_mono (s_parts11 (d := 10) (by omega) h0 F g) (fun r h' q => ⟨(q.2.resolve_right (fun z => z.1 hx)).2, by rw [q.1]; exact vE_rfl⟩), fun h1 hH1 E => ?_⟩
    exact sDo_mono (s_parts12 (d := 10) (by omega) (vE_at E M.1 (by decide)) gM) (fun r h' q => (q.2.resolve_right (fun z => z.1 hx)).2)
  · refine ⟨_, sDo_mono (s_parts11 (d := 10) (by omega) h0 F g) (fun r h' q => ⟨(q.2.resolve_left (fun z => hx z.1)).2, by rw [q.1]; exact vE_rfl⟩), fun h1 hH1 E => ?_⟩
    exact sDo_mono (s_parts12 (d := 10) (by omega) (vE_at E M.1 (by decide)) gM) (fun r h' q => (q.2.resolve_left (fun z => hx z.1)).2))
end
section
/-! ===== two fields under a relation, now and kept ===== -/
def kC (h : sHp) (c ck : CF) (ik tf : Int32) : Prop := FC h 5 c ∧ FC h 16 ck ∧ h[0]? = some (cO ik tf) ∧ fxR h 27
def kM (h : sHp) (m : MF) (g : Nat → Int32) : Prop := MC h m ∧ h[75]? = some (.inl (0, 180, .inl g))
def bFL (Rel : CF → MF → Prop) (h : sHp) : Prop := ∃ (c ck : CF) (m : MF) (g : Nat → Int32) (ik tf : Int32), kC h c ck ik tf ∧ kM h m g ∧ m.1 37 = ik ∧ Rel c m ∧ (¬ ik = 0 → ∀ m', Rel ck (mfBack m' g))
theorem FC_tr {h h' : sHp} {p : Nat} {c : CF} (F : FC h p c) (e : ∀ q x, p ≤ q → q ≤ p + 10 → h[q]? = some x → h'[q]? = some x) : FC h' p c := by
  obtain ⟨a0, a1, a2, ⟨f, a3, a4⟩, a5, a6, a7⟩ := F
  exact ⟨e _ _ (by omega) (by omega) a0, e _ _ (by omega) (by omega) a1, e _ _ (by omega) (by omega) a2, ⟨f, e _ _ (by omega) (by omega) a3, a4⟩, fun k hk => e _ _ (by omega) (by omega) (a5 k hk), e _ _ (by omega) (by omega) a6, e _ _ (by omega) (by omega) a7⟩
theorem MC_tr {h h' : sHp} {m : MF} (M : MC h m) (e : ∀ q x, 60 ≤ q → q ≤ 66 → q ≠ 61 → h[q]? = some x → h'[q]? = some x) : MC h' m := by
  obtain ⟨a0, a1, a2, a3, a4, a5⟩ := M
  exact ⟨e _ _ (by decide) (by decide) (by decide) a0, e _ _ (by decide) (by decide) (by decide) a1, e _ _ (by decide) (by decide) (by decide) a2, e _ _ (by decide) (by decide) (by decide) a3, e _ _ (by decide) (by decide) (by decide) a4, e _ _ (by decide) (by decide) (by decide) a5⟩
theorem fx_tr {h h' : sHp} {p : Nat} (F : fxR h p) (e : ∀ q x, p ≤ q → q ≤ p + 10 → h[q]? = some x → h'[q]? = some x) : fxR h' p := by
  obtain ⟨f, a, b⟩ := F
  exact ⟨f, e _ _ (by omega) (by omega) a, b⟩
theorem kC_tr {h h' : sHp} {c ck : CF} {ik tf : Int32} (K : kC h c ck ik tf) (e : ∀ q x, q < 38 → h[q]? = some x → h'[q]? = some x) : kC h' c ck ik tf :=
  ⟨FC_tr K.1 (fun q x h1 h2 => e q x (by omega)), FC_tr K.2.1 (fun q x h1 h2 => e q x (by omega)), e _ _ (by decide) K.2.2.1, fx_tr K.2.2.2 (fun q x h1 h2 => e q x (by omega))⟩
theorem kM_tr {h h' : sHp} {m : MF} {g : Nat → Int32} (K : kM h m g) (e : ∀ q x, 60 ≤ q → q ≠ 61 → h[q]? = some x → h'[q]? = some x) : kM h' m g :=
  ⟨MC_tr K.1 (fun q x h1 h2 h3 => e q x h1 h3), e _ _ (by decide) (by decide) K.2⟩
theorem kM_43 {h : sHp} {m : MF} {g : Nat → Int32} {c : va_E} (K : kM h m g) : kM (h.set 43 c) m g := kM_tr K (fun q x h1 _ hx => by rw [s_set_ne (by omega)]; exact hx)
theorem kC_43 {h : sHp} {c ck : CF} {ik tf : Int32} {x : va_E} (K : kC h c ck ik tf) : kC (h.set 43 x) c ck ik tf := kC_tr K (fun q x h1 hx => by rw [s_set_ne (by omega)]; exact hx)
theorem kM_61 {h : sHp} {m : MF} {g : Nat → Int32} {c : va_E} (K : kM h m g) : kM (h.set 61 c) m g := kM_tr K (fun q x h1 h2 hx => by rw [s_set_ne (by omega)]; exact hx)
theorem kC_61 {h : sHp} {c ck : CF} {ik tf : Int32} {x : va_E} (K : kC h c ck ik tf) : kC (h.set 61 x) c ck ik tf := kC_tr K (fun q x h1 hx => by rw [s_set_ne (by omega)]; exact hx)
theorem kM_fE {h h' : sHp} {m : MF} {g : Nat → Int32} (K : kM h m g) (E : fE 5 h h') : kM h' m g := kM_tr K (fun q x h1 _ hx => (E.2 q (by omega)).trans hx)
theorem kC_5 {h h' : sHp} {c c1 ck : CF} {ik tf : Int32} (K : kC h c ck ik tf) (F : FC h' 5 c1) (E : fE 5 h h') : kC h' c1 ck ik tf :=
  ⟨F, FC_tr K.2.1 (fun q x h1 h2 hx => (E.2 q (by omega)).trans hx), (E.2 0 (by decide)).trans K.2.2.1, fx_tr K.2.2.2 (fun q x h1 h2 hx => (E.2 q (by omega)).trans hx)⟩
theorem kC_mE {h h' : sHp} {c ck : CF} {ik tf : Int32} (K : kC h c ck ik tf) (E : mE h h') : kC h' c ck ik tf := kC_tr K (fun q x h1 hx => (E.2 q (by omega) (by omega)).trans hx)
theorem fb_of {h : sHp} {p : Nat} {c : CF} (hH : bH h) (F : FC h p c) (hp : p = 5 ∨ p = 16) : fb01 c := by
  rcases hp with rfl | rfl
  · obtain ⟨f, a, b⟩ := bA60B hH (p := 14) (by decide) rfl
    have a' : h[14]? = some (.inl (2, 5, .inl c.2.2.2.2.2.1)) := F.2.2.2.2.2.1
    rw [a'] at a
    cases a
    exact fun k hk => i_01 (b k hk).1 (b k hk).2
  · obtain ⟨f, a, b⟩ := bA60B hH (p := 25) (by decide) rfl
    have a' : h[25]? = some (.inl (2, 5, .inl c.2.2.2.2.2.1)) := F.2.2.2.2.2.1
    rw [a'] at a
    cases a
    exact fun k hk => i_01 (b k hk).1 (b k hk).2
/-! ===== frames ===== -/
def KBc : List Nat := (List.range 11).map (fun j => 0 * 64 + j) ++ ((List.range 17).map (fun j => 5 * 64 + j) ++ ((List.range 17).map (fun j => 16 * 64 + j) ++ [6 * 64, 7 * 64, 8 * 64, 14 * 64, 17 * 64, 18 * 64, 19 * 64, 25 * 64, 26 * 64, 30 * 64, 82 * 64, 83 * 64]))
def KBm : List Nat := NKm ++ [62 * 64, 64 * 64, 65 * 64, 66 * 64]
theorem KBc_0 {j : Nat} (hj : j < 11) : 0 * 64 + j ∈ KBc := List.mem_append_left _ (List.mem_map.mpr ⟨j, List.mem_range.mpr hj, rfl⟩)
theorem KBc_5 {j : Nat} (hj : j < 17) : 5 * 64 + j ∈ KBc := List.mem_append_right _ (List.mem_append_left _ (List.mem_map.mpr ⟨j, List.mem_range.mpr hj, rfl⟩))
theorem KBc_16 {j : Nat} (hj : j < 17) : 16 * 64 + j ∈ KBc := List.mem_append_right _ (List.mem_append_right _ (List.mem_append_left _ (List.mem_map.mpr ⟨j, List.mem_range.mpr hj, rfl⟩)))
theorem FC_frO {W gg p K : Nat} {h h' : sHp} {I : Nat → Int32} {G : Nat → Int64} {so : Nat → Int64} {sh : Nat → Int32} {wo : Nat → Nat → Int32} {fo : Nat → Int32} {ow ow' : Nat → Int64} (hp : (p = 5 ∧ K = 82) ∨ (p = 16 ∧ K = 83)) (a : bFr W gg h h') (h0 : ∀ j, j < 17 → W.testBit (p * 64 + j) = false) (hj : ∀ j, j = 1 ∨ j = 2 ∨ j = 3 ∨ j = 9 → W.testBit ((p + j) * 64) = false) (hw : W.testBit (K * 64) = false) (h10 : h'[p + 10]? = some (.inl (1, 7, .inr (.inl ow')))) (F : FC h p (I, G, so, sh, wo, fo, ow)) : FC h' p (I, G, so, sh, wo, fo, ow') := by
  obtain ⟨a0, a1, a2, ⟨f, a3, a4⟩, a5, a6, a7⟩ := F
  rcases hp with ⟨rfl, rfl⟩ | ⟨rfl, rfl⟩
  · refine ⟨bFr_obj (K := 5) (n := 17) a a0 rfl rfl h0, bFr_arr a a1 (by decide) rfl (hj 1 (by decide)), bFr_arr a a2 (by decide) rfl (hj 2 (by decide)), ⟨f, bFr_arr a a3 (by decide) rfl (hj 3 (by decide)), a4⟩, fun k hk => ?_, bFr_arr a a6 (by decide) rfl (hj 9 (by decide)), h10⟩
    match k, hk with
    | 0, _ => exact bFr_arr (p := 9) (K := 82) a (a5 0 (by decide)) (by decide) rfl hw
    | 1, _ => exact bFr_arr (p := 10) (K := 82) a (a5 1 (by decide)) (by decide) rfl hw
    | 2, _ => exact bFr_arr (p := 11) (K := 82) a (a5 2 (by decide)) (by decide) rfl hw
    | 3, _ => exact bFr_arr (p := 12) (K := 82) a (a5 3 (by decide)) (by decide) rfl hw
    | 4, _ => exact bFr_arr (p := 13) (K := 82) a (a5 4 (by decide)) (by decide) rfl hw
    | k + 5, hk => exact absurd hk (by omega)
  · refine ⟨bFr_obj (K := 16) (n := 17) a a0 rfl rfl h0, bFr_arr a a1 (by decide) rfl (hj 1 (by decide)), bFr_arr a a2 (by decide) rfl (hj 2 (by decide)), ⟨f, bFr_arr a a3 (by decide) rfl (hj 3 (by decide)), a4⟩, fun k hk => ?_, bFr_arr a a6 (by decide) rfl (hj 9 (by decide)), h10⟩
    match k, hk with
    | 0, _ => exact bFr_arr (p := 20) (K := 83) a (a5 0 (by decide)) (by decide) rfl hw
    | 1, _ => exact bFr_arr (p := 21) (K := 83) a (a5 1 (by decide)) (by decide) rfl hw
    | 2, _ => exact bFr_arr (p := 22) (K := 83) a (a5 2 (by decide)) (by decide) rfl hw
    | 3, _ => exact bFr_arr (p := 23) (K := 83) a (a5 3 (by decide)) (by decide) rfl hw
    | 4, _ => exact bFr_arr (p := 24) (K := 83) a (a5 4 (by decide)) (by decide) rfl hw
    | k + 5, hk => exact absurd hk (by omega)
/-- the class's part but for the owners now -/
theorem kC_frO {W gg : Nat} {h h' : sHp} {c ck : CF} {ik tf : Int32} {ow' : Nat → Int64} (a : bFr W gg h h') (hW : ∀ b ∈ KBc, W.testBit b = false) (h15 : h'[15]? = some (.inl (1, 7, .inr (.inl ow')))) (q : kC h c ck ik tf) : kC h' (c.1, c.2.1, c.2.2.1, c.2.2.2.1, c.2.2.2.2.1, c.2.2.2.2.2.1, ow') ck ik tf := by
  obtain ⟨F, Fk, q0, ⟨f, f1, f2⟩⟩ := q
  obtain ⟨I, G, so, sh, wo, fo, ow⟩ := c
  obtain ⟨Ik, Gk, sok, shk, wok, fok, owk⟩ := ck
  refine ⟨FC_frO (Or.inl ⟨rfl, rfl⟩) a (fun j hj => hW _ (KBc_5 hj)) (fun j hj => ?_) (hW _ (by decide)) h15 F, FC_frO (Or.inr ⟨rfl, rfl⟩) a (fun j hj => hW _ (KBc_16 hj)) (fun j hj => ?_) (hW _ (by decide)) (bFr_arr a Fk.2.2.2.2.2.2 (by decide) rfl (hW _ (by decide))) Fk, bFr_obj (K := 0) (n := 11) a q0 rfl rfl (fun j hj => hW _ (KBc_0 hj)), ⟨f, bFr_arr a f1 (by decide) rfl (hW _ (by decide)), f2⟩⟩
  · rcases hj with rfl | rfl | rfl | rfl
    · exact hW (6 * 64) (by decide)
    · exact hW (7 * 64) (by decide)
    · exact hW (8 * 64) (by decide)
    · exact hW (14 * 64) (by decide)
  · rcases hj with rfl | rfl | rfl | rfl
    · exact hW (17 * 64) (by decide)
    · exact hW (18 * 64) (by decide)
    · exact hW (19 * 64) (by decide)
    · exact hW (25 * 64) (by decide)
theorem kC_fr {W gg : Nat} {h h' : sHp} {c ck : CF} {ik tf : Int32} (a : bFr W gg h h') (hW : ∀ b ∈ KBc, W.testBit b = false) (h15 : W.testBit (15 * 64) = false) (q : kC h c ck ik tf) : kC h' c ck ik tf :=
  kC_frO a hW (bFr_arr a q.1.2.2.2.2.2.2 (by decide) rfl h15) q
/-- the reference's part but for the owners -/
theorem kM_frO {W gg : Nat} {h h' : sHp} {m : MF} {g ow' : Nat → Int32} (hH' : bH h') (a : bFr W gg h h') (hW : ∀ b ∈ KBm, W.testBit b = false) (h63 : h'[63]? = some (.inl (0, 64, .inl ow'))) (q : kM h m g) : ∃ J', kM h' (J', m.2.1, ow', m.2.2.2) g ∧ (∀ j, j < 7 → J' j = m.1 j) ∧ J' 37 = m.1 37 := by
  obtain ⟨M, g75⟩ := q
  obtain ⟨⟨J', b1, b2, b3⟩, b4⟩ := nkM_fr (J := m.1) (g := g) hH' a (fun b hb => hW b (List.mem_append_left _ hb)) ⟨⟨m.1, M.1, fun _ _ => rfl, rfl⟩, g75⟩
  have mm : ∀ b ∈ [62 * 64, 64 * 64, 65 * 64, 66 * 64], W.testBit b = false := fun b hb => hW b (List.mem_append_right _ hb)
  exact ⟨J', ⟨⟨b1, bFr_arr a M.2.1 (by decide) rfl (mm _ (by decide)), h63, bFr_arr a M.2.2.2.1 (by decide) rfl (mm _ (by decide)), bFr_arr a M.2.2.2.2.1 (by decide) rfl (mm _ (by decide)), bFr_arr a M.2.2.2.2.2 (by decide) rfl (mm _ (by decide))⟩, b4⟩, b2, b3⟩
/-- a relation that says nothing of owners -/
def noOw (Rel : CF → MF → Prop) : Prop := ∀ (c : CF) (m : MF) (o1 : Nat → Int64) (o2 : Nat → Int32), Rel c m → Rel (c.1, c.2.1, c.2.2.1, c.2.2.2.1, c.2.2.2.2.1, c.2.2.2.2.2.1, o1) (m.1, m.2.1, o2, m.2.2.2)
theorem bFL_frO {Rel : CF → MF → Prop} (ok : relOk Rel) (no : noOw Rel) {W gg : Nat} {h h' : sHp} (hH' : bH h') (a : bFr W gg h h') (hc : ∀ b ∈ KBc, W.testBit b = false) (hm : ∀ b ∈ KBm, W.testBit b = false) (q : bFL Rel h) : bFL Rel h' := by
  obtain ⟨c, ck, m, g, ik, tf, kc, km, ej, rl, rk⟩ := q
  obtain ⟨ow, h15⟩ := bA60L hH' (p := 15) (by decide) rfl
  obtain ⟨ow', h63, -, -⟩ := bA60 hH' (p := 63) (by decide) rfl
  obtain ⟨J', km', eJ, e37⟩ := kM_frO hH' a hm h63 km
  exact ⟨_, ck, _, g, ik, tf, kC_frO a hc h15 kc, km', e37.trans ej, ok.1 _ _ _ (no c m ow ow' rl) ⟨eJ, rfl⟩, rk⟩
theorem bFL_fr {Rel : CF → MF → Prop} (ok : relOk Rel) {W gg : Nat} {h h' : sHp} (hH' : bH h') (a : bFr W gg h h') (hc : ∀ b ∈ KBc, W.testBit b = false) (h15 : W.testBit (15 * 64) = false) (hm : ∀ b ∈ KBm, W.testBit b = false) (h63 : W.testBit (63 * 64) = false) (q : bFL Rel h) : bFL Rel h' := by
  obtain ⟨c, ck, m, g, ik, tf, kc, km, ej, rl, rk⟩ := q
  obtain ⟨J', km', eJ, e37⟩ := kM_frO hH' a hm (bFr_arr a km.1.2.2.1 (by decide) rfl h63) km
  exact ⟨c, ck, _, g, ik, tf, kC_fr a hc h15 kc, km', e37.trans ej, ok.1 _ _ _ rl ⟨eJ, rfl⟩, rk⟩
theorem pk_size {Rel : CF → MF → Prop} (ok : relOk Rel) (x : Int32) (y : Int32) : pairR (bFL Rel) 124 204 [.int x, .int y] := pr_mk (c1 := cn_X11_size_0) (c2 := cn_X12_size_0) ch_X11_size_0 ch_X12_size_0 (by decide +kernel) (by decide +kernel) (by decide +kernel) (by decide +kernel) rfl rfl (fun h hH => ⟨bt0 hH, vI0 x, vI0 y, trivial⟩) (fun h hH => ⟨bt60 hH, vI0 x, vI0 y, trivial⟩) (fun h hH hR => by
  obtain ⟨c, ck, m, g, ik, tf, kc, km, ej, rl, rk⟩ := hR
  have F := kc.1
  have q0 := kc.2.2.1
  obtain ⟨Rc, hRc⟩ := RA_of hH (p := 43) (Or.inl rfl)
  obtain ⟨s, sI, sJ, gF, gM⟩ := RN_sg (ok.2.2.2.2.1 _ _ rl)
  refine sDo_mono (s_size11 (d := 10) (by omega) q0 hRc F) (fun r1 h1 q hH1 fr1 => ?_)
  have okE : okSz x y ↔ (2 ≤ x.toInt ∧ x.toInt ≤ 8 ∧ 2 ≤ y.toInt ∧ y.toInt ≤ 8) := Iff.rfl
  rcases q with ⟨k, rfl, F1, E1⟩ | ⟨k, rfl, rfl⟩
  · have km1 := kM_fE km E1
    refine sDo_mono (s_size12 (x := x) (y := y) hH1 km1.1) (fun r2 h2 p hH2 fr2 => ?_)
    rcases p with ⟨-, rfl, M2⟩ | ⟨k2, -⟩
    · have nc := kC_fr fr2 (by decide +kernel) (by decide +kernel) (kC_5 kc F1 E1)
      rw [okE] at k
      obtain ⟨X, hX⟩ : ∃ X : Nat, x.toInt = X := ⟨x.toInt.toNat, by omega⟩
      obtain ⟨Y, hY⟩ : ∃ Y : Nat, y.toInt = Y := ⟨y.toInt.toNat, by omega⟩
      have ex : x = Int32.ofNat X := Int32.toInt_inj.mp (by rw [hX, ofN_toInt (by omega)])
      have ey : y = Int32.ofNat Y := Int32.toInt_inj.mp (by rw [hY, ofN_toInt (by omega)])
      rw [ex, ey] at nc M2
      exact ⟨⟨_, ck, _, g, ik, tf, nc, ⟨M2, M75 fr2 km1.2 (by decide +kernel)⟩, ej, ok.2.1 _ _ s (0, X, Y, 0) rl sI sJ ⟨by omega, by omega, by omega, by omega⟩, rk⟩, _, rfl, rfl⟩
    · exact absurd k k2
  · have km1 := kM_43 (c := rFc (bump Rc 6)) km
    refine sDo_mono (s_size12 (x := x) (y := y) hH1 km1.1) (fun r2 h2 p hH2 fr2 => ?_)
    rcases p with ⟨k2, -⟩ | ⟨-, rfl, M2⟩
    · exact absurd k2 k
    · exact ⟨⟨c, ck, m, g, ik, tf, kC_fr fr2 (by decide +kernel) (by decide +kernel) (kC_43 kc), ⟨M2, M75 fr2 km1.2 (by decide +kernel)⟩, ej, rl, rk⟩, _, rfl, rfl⟩)
theorem pk_place {Rel : CF → MF → Prop} (ok : relOk Rel) (x : Int32) (v : Int32) : pairR (bFL Rel) 126 206 [.int x, .int v] := pr_mk (c1 := cn_X11_place_0) (c2 := cn_X12_place_0) ch_X11_place_0 ch_X12_place_0 (by decide +kernel) (by decide +kernel) (by decide +kernel) (by decide +kernel) rfl rfl (fun h hH => ⟨bt0 hH, vI0 x, vI0 v, trivial⟩) (fun h hH => ⟨bt60 hH, vI0 x, vI0 v, trivial⟩) (fun h hH hR => by
  obtain ⟨c, ck, m, g, ik, tf, kc, km, ej, rl, rk⟩ := hR
  have F := kc.1
  have q0 := kc.2.2.1
  obtain ⟨Rc, hRc⟩ := RA_of hH (p := 43) (Or.inl rfl)
  obtain ⟨s, sI, sJ, gF, gM⟩ := RN_sg (ok.2.2.2.2.1 _ _ rl)
  refine sDo_mono (s_place11 (d := 10) (x := x) (v := v) (by omega) q0 hRc F gF) (fun r1 h1 q hH1 fr1 => ?_)
  obtain ⟨Rm, hRm⟩ := RA_of hH1 (p := 61) (Or.inr rfl)
  rcases q with ⟨K, hK, hx, k, rfl, rfl⟩ | ⟨k, rfl, rfl⟩
  · have F1 := FC_0 (I := upd c.1 (7 + K) v) (G := c.2.1) F
    have E1 : fE 5 h (h.set 5 (fO 5 (upd c.1 (7 + K) v) c.2.1)) := fE_set fE_rfl (by omega) (by omega)
    have km1 := kM_fE km E1
    refine sDo_mono (s_place12 (d := 10) (x := x) (v := v) (by omega) km1.1 hRm gM) (fun r2 h2 p hH2 fr2 => ?_)
    rcases p with ⟨K2, hK2, hx2, -, rfl, rfl⟩ | ⟨k2, -⟩
    · have eK : K2 = K := by omega
      subst eK
      have nc := kC_mE (kC_5 kc F1 E1) (mE_set (q := 60) (x := mO (upd m.1 (2 + K2) v)) mE_rfl (by decide))
      have M2 := MC_0 (f := upd m.1 (2 + K2) v) km1.1
      have g2 : (List.set (List.set h 5 (fO 5 (upd c.1 (7 + K2) v) c.2.1)) 60 (mO (upd m.1 (2 + K2) v)))[75]? = some (.inl (0, 180, .inl g)) := by rw [s_set_ne (by decide)]; exact km1.2
      rw [hx2] at k
      have rl2 := ok.2.2.2.2.2 _ _ s K2 v rl sI hK k
      obtain ⟨W', H', N', -, -, -, -, -, -, mk⟩ := ok.2.2.2.2.1 _ _ rl
      have ev : c.1 (7 + K2) = m.1 (2 + K2) := mk K2 hK
      refine ⟨⟨_, ck, _, g, ik, tf, nc, ⟨M2, g2⟩, (u_ne (by omega)).trans ej, rl2, rk⟩, _, rfl, ?_⟩
      exact congrArg (fun z => some (Value.int z)) ev.symm
    · exact absurd k k2
  · refine sDo_mono (s_place12 (d := 10) (x := x) (v := v) (by omega) (kM_43 km).1 hRm gM) (fun r2 h2 p hH2 fr2 => ?_)
    rcases p with ⟨-, -, -, k2, -⟩ | ⟨-, rfl, rfl⟩
    · exact absurd k2 k
    · exact ⟨⟨c, ck, m, g, ik, tf, kC_61 (kC_43 kc), kM_61 (kM_43 km), ej, rl, rk⟩, _, rfl, rfl⟩)
theorem pk_heir {Rel : CF → MF → Prop} (ok : relOk Rel) (x : Int32) : pairR (bFL Rel) 127 207 [.int x] := pr_mk (c1 := cn_X11_heir_0) (c2 := cn_X12_heir_0) ch_X11_heir_0 ch_X12_heir_0 (by decide +kernel) (by decide +kernel) (by decide +kernel) (by decide +kernel) rfl rfl (fun h hH => ⟨bt0 hH, vI0 x, trivial⟩) (fun h hH => ⟨bt60 hH, vI0 x, trivial⟩) (fun h hH hR => by
  obtain ⟨c, ck, m, g, ik, tf, kc, km, ej, rl, rk⟩ := hR
  have F := kc.1
  have q0 := kc.2.2.1
  obtain ⟨Rc, hRc⟩ := RA_of hH (p := 43) (Or.inl rfl)
  obtain ⟨s, sI, sJ, gF, gM⟩ := RN_sg (ok.2.2.2.2.1 _ _ rl)
  refine sDo_mono (s_heir11 (d := 10) (x := x) (N := s.2.2) (by omega) q0 hRc F sI.2.2.1 sI.2.2.2.2.2.2.2) (fun r1 h1 q hH1 fr1 => ?_)
  obtain ⟨Rm, hRm⟩ := RA_of hH1 (p := 61) (Or.inr rfl)
  rcases q with ⟨k, k1, rfl, F1, E1⟩ | ⟨k, k1, rfl, rfl⟩ | ⟨k, rfl, rfl⟩
  · have km1 := kM_fE km E1
    refine sDo_mono (s_heir12 (d := 10) (x := x) (N := s.2.2) (by omega) km1.1 hRm sJ.2.2.1 sJ.2.2.2.2.2.2.2) (fun r2 h2 p hH2 fr2 => ?_)
    rcases p with ⟨-, -, rfl, M2, E2⟩ | ⟨-, k2, -⟩ | ⟨k2, -⟩
    · obtain ⟨X, hX⟩ : ∃ X : Nat, x.toInt = X := ⟨x.toInt.toNat, by omega⟩
      have ex : x = Int32.ofNat X := Int32.toInt_inj.mp (by rw [hX, ofN_toInt (by omega)])
      have eN := ofN_toInt (n := s.2.2) (by omega)
      have e1 : (c.1 11).toNatClampNeg = s.2.2 := by rw [sI.2.2.1]; exact i_nat eN
      have e2 : (m.1 6).toNatClampNeg = s.2.2 := by rw [sJ.2.2.1]; exact i_nat eN
      have rl2 : Rel (cfHeir (c.1 11).toNatClampNeg (Int32.ofNat X) c) (mfHeir (m.1 6).toNatClampNeg (Int32.ofNat X) m) := ok.2.1 _ _ s (3, X, 0, 0) rl sI sJ ⟨by omega, by omega, k1⟩
      rw [e1, e2, ← ex] at rl2
      exact ⟨⟨_, ck, _, g, ik, tf, kC_mE (kC_5 kc F1 E1) E2, ⟨M2, (E2.2 75 (by decide) (by decide)).trans km1.2⟩, ej, rl2, rk⟩, _, rfl, rfl⟩
    · omega
    · exact absurd k k2
  · refine sDo_mono (s_heir12 (d := 10) (x := x) (N := s.2.2) (by omega) (kM_43 km).1 hRm sJ.2.2.1 sJ.2.2.2.2.2.2.2) (fun r2 h2 p hH2 fr2 => ?_)
    rcases p with ⟨-, k2, -⟩ | ⟨-, -, rfl, rfl⟩ | ⟨k2, -⟩
    · omega
    · exact ⟨⟨c, ck, m, g, ik, tf, kC_61 (kC_43 kc), kM_61 (kM_43 km), ej, rl, rk⟩, _, rfl, rfl⟩
    · exact absurd k k2
  · refine sDo_mono (s_heir12 (d := 10) (x := x) (N := s.2.2) (by omega) (kM_43 km).1 hRm sJ.2.2.1 sJ.2.2.2.2.2.2.2) (fun r2 h2 p hH2 fr2 => ?_)
    rcases p with ⟨k2, -⟩ | ⟨k2, -⟩ | ⟨-, rfl, rfl⟩
    · exact absurd k2 k
    · exact absurd k2 k
    · exact ⟨⟨c, ck, m, g, ik, tf, kC_61 (kC_43 kc), kM_61 (kM_43 km), ej, rl, rk⟩, _, rfl, rfl⟩)
theorem pk_image {Rel : CF → MF → Prop} (ok : relOk Rel) : pairR (bFL Rel) 154 254 [] := pr_mk (c1 := cn_X11_image_0) (c2 := cn_X12_image_0) ch_X11_image_0 ch_X12_image_0 (by decide +kernel) (by decide +kernel) (by decide +kernel) (by decide +kernel) rfl rfl (fun h hH => ⟨bt0 hH, trivial⟩) (fun h hH => ⟨bt60 hH, trivial⟩) (fun h hH hR => by
  obtain ⟨c, ck, m, g, ik, tf, kc, km, ej, rl, rk⟩ := hR
  have F := kc.1
  have q0 := kc.2.2.1
  obtain ⟨Rc, hRc⟩ := RA_of hH (p := 43) (Or.inl rfl)
  obtain ⟨s, sI, sJ, gF, gM⟩ := RN_sg (ok.2.2.2.2.1 _ _ rl)
  refine sDo_mono (s_image11 (d := 10) (by omega) q0 F kc.2.1 (fb_of hH F (Or.inl rfl))) (fun r1 h1 q hH1 fr1 => ?_)
  obtain ⟨rfl, F1, Fk1, z0, -, zq⟩ := q
  have km1 := kM_tr km (fun q x h1 _ hx => (zq q (by omega)).trans hx)
  refine sDo_mono (s_image12 km1.1 km1.2) (fun r2 h2 p hH2 fr2 => ?_)
  obtain ⟨rfl, M2, g2⟩ := p
  have nc : kC h1 c (cfBecome c ck) 1 tf := ⟨F1, Fk1, z0, fx_tr kc.2.2.2 (fun q x h1 h2 hx => (zq q (by omega)).trans hx)⟩
  have nc2 := kC_fr fr2 (by decide +kernel) (by decide +kernel) nc
  obtain ⟨W', H', N', -, -, c11, -, -, m6, -⟩ := ok.2.2.2.2.1 _ _ rl
  refine ⟨⟨c, _, _, _, 1, tf, nc2, ⟨M2, g2⟩, rfl, ok.1 _ m (upd m.1 37 (Int32.ofInt 1), m.2) rl ⟨fun j hj => u_ne (by omega), rfl⟩, fun _ m' => ok.2.2.2.1 _ m m' g (ok.2.2.1 c ck m rl)⟩, _, rfl, ?_⟩
  exact congrArg (fun z => some (Value.int z)) (m6.trans c11.symm))
theorem pk_restore {Rel : CF → MF → Prop} (ok : relOk Rel) : pairR (bFL Rel) 155 255 [] := pr_mk (c1 := cn_X11_restore_0) (c2 := cn_X12_restore_0) ch_X11_restore_0 ch_X12_restore_0 (by decide +kernel) (by decide +kernel) (by decide +kernel) (by decide +kernel) rfl rfl (fun h hH => ⟨bt0 hH, trivial⟩) (fun h hH => ⟨bt60 hH, trivial⟩) (fun h hH hR => by
  obtain ⟨c, ck, m, g, ik, tf, kc, km, ej, rl, rk⟩ := hR
  have F := kc.1
  have q0 := kc.2.2.1
  obtain ⟨Rc, hRc⟩ := RA_of hH (p := 43) (Or.inl rfl)
  obtain ⟨s, sI, sJ, gF, gM⟩ := RN_sg (ok.2.2.2.2.1 _ _ rl)
  refine sDo_mono (s_restore11 (d := 10) (by omega) q0 hRc F kc.2.1 (fb_of hH kc.2.1 (Or.inr rfl))) (fun r1 h1 q hH1 fr1 => ?_)
  rcases q with ⟨k, rfl, F1, E1⟩ | ⟨k, rfl, rfl⟩
  · have km1 := kM_fE km E1
    refine sDo_mono (s_restore12 hH1 km1.1 km1.2) (fun r2 h2 p hH2 fr2 => ?_)
    rcases p with ⟨k2, -⟩ | ⟨-, rfl, M2, g2⟩
    · exact absurd (ej.symm.trans k2) k
    · have nc := kC_fr fr2 (by decide +kernel) (by decide +kernel) (kC_5 kc F1 E1)
      have rl2 := ok.2.2.1 ck c _ (rk k m)
      obtain ⟨W', H', N', -, -, c11, -, -, m6, -⟩ := ok.2.2.2.2.1 _ _ (rk k m)
      refine ⟨⟨_, ck, _, g, ik, tf, nc, ⟨M2, g2⟩, ej, rl2, rk⟩, _, rfl, ?_⟩
      exact congrArg (fun z => some (Value.int z)) (show g 174 = ck.1 11 from m6.trans c11.symm)
  · have km1 := kM_43 (c := rFc (bump Rc 6)) km
    refine sDo_mono (s_restore12 hH1 km1.1 km1.2) (fun r2 h2 p hH2 fr2 => ?_)
    rcases p with ⟨-, rfl, M2, g2⟩ | ⟨k2, -⟩
    · exact ⟨⟨c, ck, m, g, ik, tf, kC_fr fr2 (by decide +kernel) (by decide +kernel) (kC_43 kc), ⟨M2, g2⟩, ej, rl, rk⟩, _, rfl, rfl⟩
    · exact absurd (ej.trans k) k2)
end
section
theorem pk_field {Rel : CF → MF → Prop} (ok : relOk Rel) (x : Int32) : pairR (fun h => bR5 h ∧ bFL Rel h) 122 202 [.int x] := pr_mk (c1 := cn_X11_field_0) (c2 := cn_X12_field_0) ch_X11_field_0 ch_X12_field_0 (by decide +kernel) (by decide +kernel) (by decide +kernel) (by decide +kernel) rfl rfl (fun h hH => ⟨bt0 hH, vI0 x, trivial⟩) (fun h hH => ⟨bt60 hH, vI0 x, trivial⟩) (fun h hH hRR => by
  obtain ⟨hR5, hR⟩ := hRR
  obtain ⟨c, ck, m, g, ik, tf, kc, km, ej, rl, rk⟩ := hR
  have F := kc.1
  have q0 := kc.2.2.1
  obtain ⟨Rc, hRc⟩ := RA_of hH (p := 43) (Or.inl rfl)
  obtain ⟨s, sI, sJ, gF, gM⟩ := RN_sg (ok.2.2.2.2.1 _ _ rl)
  obtain ⟨cd, Fd, -⟩ := FC_at27 hH kc.2.2.2
  have fb := fb_of hH F (Or.inl rfl)
  obtain ⟨hd, ro, sz, co, cl, f, gg, q4, bs⟩ := id hR5
  have q4' := q4
  obtain ⟨a1, a2, a3, a4, a5, a6, a7, a8⟩ := q4'
  have l79 := hH.1
  -- refused on both sides
  have refd : ∀ (b : Int32) (B : Nat), b.toInt = -(B : Int) → (1 ≤ B ∧ B ≤ 7) → sDo 9 161 [.ref 0, .int x] h (fun r h' => h' = h ∧ r = some (.int b)) → (((0 ≤ x.toInt ∧ x.toInt < 8) ∧ wtS hd x.toInt.toNat 1 = b) ∨ (¬ (0 ≤ x.toInt ∧ x.toInt < 8) ∧ b = -1)) → sDo 10 cn_X11_field_0.1 (.ref 0 :: [.int x]) h (fun r1 h1 => bH h1 → bFr cn_X11_field_0.2.2.2.2.1 cn_X11_field_0.2.2.2.2.2.1 h h1 → sDo 10 cn_X12_field_0.1 (.ref 60 :: [.int x]) h1 (fun r2 h2 => bH h2 → bFr cn_X12_field_0.2.2.2.2.1 cn_X12_field_0.2.2.2.2.2.1 h1 h2 → (bR5 h2 ∧ bFL Rel h2) ∧ ∃ x, r1 = some x ∧ r2 = some x)) := by
    intro b B hb hB hno hx
    refine sDo_mono (s_field11n (d := 10) (by omega) q0 hRc hb hB hno) (fun r1 h1 q hH1 fr1 => ?_)
    obtain ⟨rfl, rfl⟩ := q
    obtain ⟨Rm, hRm⟩ := RA_of hH1 (p := 61) (Or.inr rfl)
    refine sDo_mono (s_field12n (d := 10) (by omega) (kM_43 km).1.1 hRm (by rw [s_set_ne (by decide)]; exact a4) hb hB hx) (fun r2 h2 p hH2 fr2 => ?_)
    obtain ⟨rfl, rfl⟩ := p
    exact ⟨⟨bR5_fr fr2 (by decide +kernel) (bR5_43 hR5), c, ck, m, g, ik, tf, kC_61 (kC_43 kc), kM_61 (kM_43 km), ej, rl, rk⟩, _, rfl, rfl⟩
  by_cases hS : 0 ≤ x.toInt ∧ x.toInt < 8
  · obtain ⟨S, hx⟩ : ∃ S : Nat, x.toInt = S := ⟨x.toInt.toNat, by omega⟩
    obtain ⟨ot, z, el, b1, b2, b3⟩ := bs S (by omega)
    have hno := s_noIn (d := 7) (el := el) hH q4 hx (by omega) b1 b3
    have row : hd S = 1 ∨ (hd S = 0 ∨ hd S = 2) := by
      rcases b3 with ⟨e, -⟩ | ⟨e, -⟩ | ⟨e, -⟩
      · exact Or.inr (Or.inl e)
      · exact Or.inl e
      · exact Or.inr (Or.inr e)
    rcases row with h1 | h1
    · -- a row
      rcases b3 with ⟨e, -⟩ | ⟨-, -, eo, o0, o3, ez, z0, z100, eel⟩ | ⟨e, -⟩
      · rw [h1] at e; exact absurd e (by decide)
      · obtain ⟨n, hn⟩ : ∃ n : Nat, z.toInt = n := ⟨z.toInt.toNat, by omega⟩
        have hz : z = Int32.ofNat n := Int32.toInt_inj.mp (by rw [hn, ofN_toInt (by omega)])
        have hno0 : sDo 9 161 [.ref 0, .int x] h (fun r h' => h' = h ∧ r = some (.int 0)) := sDo_mono hno (fun r h' q => ⟨q.1, by rw [q.2]; unfold nrOf; rw [if_pos h1]⟩)
        have sI2 : sgI (cfBecome c cd) s := ⟨(bc_I c.1 cd.1 0 (by decide)).trans sI.1, (bc_I c.1 cd.1 1 (by decide)).trans sI.2.1, (bc_I c.1 cd.1 11 (by decide)).trans sI.2.2.1, sI.2.2.2⟩
        have RT1 : RT cl S n (tx el n) := ⟨by omega, by omega, fun i hi => by
            unfold tx
            rw [if_pos hi, eel i (by omega)], fun i hi => if_neg (by omega)⟩
        rw [hz] at b1
        refine sDo_mono (s_field11 (d := 10) (S := S) (n := n) (by omega) l79 q0 hRc F Fd fb (fun as => fb_dos (fb_bc (a := c) fb) as) (by omega) (by omega) hx a1 (a2 S (by omega)) b1 b2 sI2 hno0) (fun r1 h1' q hH1 fr1 => ?_)
        have hE : ∃ lo, (lo = 5 ∨ lo = 16) ∧ fdE h h1' lo := by
          unfold qF11 at q
          split at q
          · exact ⟨5, Or.inl rfl, q.2.2.2⟩
          · exact ⟨16, Or.inr rfl, q.2.2⟩
        obtain ⟨lo, hlo, E⟩ := hE
        have at_ : ∀ {p : Nat} {x : va_E}, h[p]? = some x → 43 < p → h1'[p]? = some x := fun hx hp => fdE_at E hx (by omega) (by omega) (by omega) (by omega)
        have km1 : kM h1' m g := kM_tr km (fun q x h1 _ hx => at_ hx (by omega))
        have M := km1.1
        obtain ⟨Rm, hRm⟩ := RA_of hH1 (p := 61) (Or.inr rfl)
        obtain ⟨gw, hgw, -, -⟩ := bA60 hH1 (p := 74) (by decide) rfl
        obtain ⟨wd, w0, WW⟩ := WD_of hH1
        have x27' := fxR_fr fr1 (Or.inr (Or.inr rfl)) (by decide +kernel) kc.2.2.2
        refine sDo_mono (s_field12 (d := 10) (S := S) (n := n) (by omega) M hRm hgw w0 WW (at_ a4 (by decide)) (at_ a6 (by decide)) (at_ a8 (by decide)) (by omega) hx h1 (by rw [← ez, hz]) RT1 sJ) (fun r2 h2 p hH2 fr2 => ?_)
        have R2 := bR5_fr fr2 (by decide +kernel) (bR5_fr fr1 (by decide +kernel) hR5)
        cases hi : itsS (tx el n) n 101 s 0 with
        | none =>
          rw [hi] at q p
          obtain ⟨rfl, ⟨tf2, z0'⟩, E1⟩ := q
          obtain ⟨rfl, ⟨m0, g0, m2, M2, mq⟩, E2⟩ := p
          have nc : kC h1' c ck ik tf2 := ⟨FC_tr F (fun q x h1 h2 hx => fdE_at E1 hx (by omega) (by omega) (by omega) (by omega)), FC_tr kc.2.1 (fun q x h1 h2 hx => fdE_at E1 hx (by omega) (by omega) (by omega) (by omega)), z0', x27'⟩
          have rl2 : Rel c m2 := ok.1 _ _ _ (ok.2.2.2.1 _ _ m0 g0 rl) mq
          exact ⟨⟨R2, c, ck, m2, g, ik, tf2, kC_fr fr2 (by decide +kernel) (by decide +kernel) nc, ⟨M2, (E2.2 75 (by decide) (by decide) (by decide)).trans km1.2⟩, (iso37 fr2 M.1 M2.1 (by decide +kernel)).trans ej, rl2, rk⟩, _, rfl, rfl⟩
        | some kb =>
          obtain ⟨k, as⟩ := kb
          rw [hi] at q p
          obtain ⟨rfl, F1, z0', E1⟩ := q
          obtain ⟨rfl, ⟨m2, M2, mq⟩, E2⟩ := p
          have okA := (its_ok hi sI2).1
          have rl1 : Rel (cfBecome c cd) m := ok.2.2.1 _ _ _ rl
          have rl2 := ok.2.2.1 _ c _ (rel_dos ok rl1 sI2 sJ okA)
          have rl3 := ok.1 _ _ _ rl2 mq
          have nc : kC h1' (cfBecome (as.foldl cfDo (cfBecome c cd)) c) ck ik (-1) := ⟨F1, FC_tr kc.2.1 (fun q x h1 h2 hx => fdE_at E1 hx (by omega) (by omega) (by omega) (by omega)), z0', x27'⟩
          exact ⟨⟨R2, _, ck, m2, g, ik, -1, kC_fr fr2 (by decide +kernel) (by decide +kernel) nc, ⟨M2, (E2.2 75 (by decide) (by decide) (by decide)).trans km1.2⟩, (iso37 fr2 M.1 M2.1 (by decide +kernel)).trans ej, rl3, rk⟩, _, rfl, rfl⟩
      · rw [h1] at e; exact absurd e (by decide)
    · obtain ⟨B, hB, eB, ew⟩ := nr_b h1
      exact refd _ B eB hB hno (Or.inl ⟨hS, by rw [show x.toInt.toNat = S by omega]; exact ew⟩)
  · exact refd (-1) 1 (by decide) (by decide) (s_noOut (d := 7) hS) (Or.inr ⟨hS, rfl⟩))
end
section
/-! ===== soils, shares, worths, FOND alike ===== -/
def RSs (s : Sg) (c : CF) (m : MF) : Prop := (∀ v, v < 6 → c.2.2.1 v = stO (fun q => decide (m.2.1 q = Int32.ofNat v)) (s.1 * s.2.1)) ∧ (∀ q, q < s.1 * s.2.1 → ∃ v, v < 6 ∧ m.2.1 q = Int32.ofNat v) ∧ (∀ k, k < s.2.2 → c.2.2.2.1 k = m.2.2.2.1 k ∧ c.2.2.2.2.2.1 k = m.2.2.2.2.1 k) ∧ (∀ k, k < s.2.2 → ∀ v, v < 6 → c.2.2.2.2.1 k v = m.2.2.2.2.2 (6 * k + v)) ∧ ∀ k, k < s.2.2 → (∃ n, 1 ≤ n ∧ n ≤ 9 ∧ m.2.2.2.1 k = Int32.ofNat n) ∧ (m.2.2.2.2.1 k = 0 ∨ m.2.2.2.2.1 k = 1) ∧ ∀ v, v < 6 → ∃ n, n < 100 ∧ m.2.2.2.2.2 (6 * k + v) = Int32.ofNat n
/-- the places may stand -/
def RPs (s : Sg) (J : Nat → Int32) : Prop := ∀ k : Nat, k ≤ 3 → okPl (s.1 * s.2.1) (k : Int) (J (2 + k)).toInt
def RB (c : CF) (m : MF) : Prop := RN c m ∧ ∀ s : Sg, sgI c s → RSs s c m ∧ RPs s m.1
theorem ofN_inj {a b : Nat} (ha : a < 1000) (hb : b < 1000) (h : Int32.ofNat a = Int32.ofNat b) : a = b := by
  have h2 := congrArg Int32.toInt h
  rw [ofN_toInt (by omega), ofN_toInt (by omega)] at h2
  omega
theorem sgI_inj {c : CF} {s s' : Sg} (a : sgI c s) (b : sgI c s') : s = s' := by
  obtain ⟨x, y, z⟩ := s
  obtain ⟨x', y', z'⟩ := s'
  obtain ⟨a1, a2, a3, a4, a5, a6, a7, a8⟩ := a
  obtain ⟨b1, b2, b3, b4, b5, b6, b7, b8⟩ := b
  have a5 : x ≤ 8 := a5
  have a7 : y ≤ 8 := a7
  have a8 : z ≤ 5 := a8
  have b5 : x' ≤ 8 := b5
  have b7 : y' ≤ 8 := b7
  have b8 : z' ≤ 5 := b8
  have e1 : x = x' := ofN_inj (show x < 1000 by omega) (show x' < 1000 by omega) (a1.symm.trans b1)
  have e2 : y = y' := ofN_inj (show y < 1000 by omega) (show y' < 1000 by omega) (a2.symm.trans b2)
  have e3 : z = z' := ofN_inj (show z < 1000 by omega) (show z' < 1000 by omega) (a3.symm.trans b3)
  rw [e1, e2, e3]
theorem RB_s {c : CF} {m : MF} {s : Sg} (r : RB c m) (q : sgI c s) : RSs s c m := (r.2 s q).1
theorem RB_mk {c : CF} {m : MF} {s : Sg} (a : RN c m) (q : sgI c s) (b : RSs s c m) (b2 : RPs s m.1) : RB c m := ⟨a, fun s' q' => by rw [← sgI_inj q q']; exact ⟨b, b2⟩⟩
theorem RPs_J {s : Sg} {J J' : Nat → Int32} (r : RPs s J) (e : ∀ j, j < 7 → J' j = J j) : RPs s J' := fun k hk => by rw [e (2 + k) (by omega)]; exact r k hk
theorem okPl_n {n n' : Nat} {k : Nat} {v : Int} (h : okPl n k v) (hk : k = 0 ∨ k = 3) : okPl n' k v := by
  unfold okPl at h ⊢
  omega
theorem RSs_c {s : Sg} {c c' : CF} {m m' : MF} (r : RSs s c m) (e : c'.2.2 = c.2.2) (e' : m'.2 = m.2) : RSs s c' m' := by
  obtain ⟨I, G, R⟩ := c
  obtain ⟨I', G', R'⟩ := c'
  obtain ⟨J, T⟩ := m
  obtain ⟨J', T'⟩ := m'
  have e : R' = R := e
  have e' : T' = T := e'
  subst e e'
  exact r
theorem RN_sgI {c : CF} {m : MF} (r : RN c m) : ∃ s : Sg, sgI c s ∧ sgJ m.1 s := by
  obtain ⟨s, a, b, -⟩ := RN_sg r
  exact ⟨s, a, b⟩
theorem stO_ext {P Q : Nat → Bool} {n : Nat} (hn : n ≤ 64) (h : ∀ q, q < n → P q = Q q) : stO P n = stO Q n := bt_ext (fun i hi => by
  rw [bt_stO _ _ hn, bt_stO _ _ hn]
  by_cases z : i < n
  · rw [h i z]
  · rw [decide_eq_false z, Bool.false_and, Bool.false_and])
theorem stO_no {P : Nat → Bool} {n : Nat} (hn : n ≤ 64) (h : ∀ q, q < n → P q = false) : stO P n = Int64.ofNat 0 := bt_ext (fun i hi => by
  rw [bt_stO _ _ hn, bt_0]
  by_cases z : i < n
  · rw [h i z, Bool.and_false]
  · rw [decide_eq_false z, Bool.false_and])
theorem svF_so (m : MF) (g : Nat → Int32) {q : Nat} (hq : q < 64) : svF m g q = m.2.1 q := by
  unfold svF
  rw [gS7_ne (by omega), gS_A hq]
theorem svF_sh (m : MF) (g : Nat → Int32) {q : Nat} (hq : q < 5) : svF m g (128 + q) = m.2.2.2.1 q := by
  unfold svF
  rw [gS7_ne (by omega), gS_C hq]
theorem svF_fo (m : MF) (g : Nat → Int32) {q : Nat} (hq : q < 5) : svF m g (133 + q) = m.2.2.2.2.1 q := by
  unfold svF
  rw [gS7_ne (by omega)]
  unfold gS ks
  rw [if_neg (by omega), if_pos (by omega)]
  exact congrArg _ (by omega)
theorem svF_va (m : MF) (g : Nat → Int32) {q : Nat} (hq : q < 30) : svF m g (138 + q) = m.2.2.2.2.2 q := by
  unfold svF
  rw [gS7_ne (by omega)]
  unfold gS ks
  rw [if_pos (by omega)]
  exact congrArg _ (by omega)
theorem RSs_back {s : Sg} {c : CF} {m : MF} (h1 : s.1 * s.2.1 ≤ 64) (hN : s.2.2 ≤ 5) (r : RSs s c m) (m' : MF) (g : Nat → Int32) : RSs s c (mfBack m' (svF m g)) := by
  obtain ⟨r1, r2, r3, r4, r5⟩ := r
  have eH : ∀ k, k < 5 → (mfBack m' (svF m g)).2.2.2.1 k = m.2.2.2.1 k := fun k hk => by
    show kb m'.2.2.2.1 (svF m g) 128 5 k = _
    unfold kb
    rw [if_pos (by omega), svF_sh m g (by omega)]
  have eF : ∀ k, k < 5 → (mfBack m' (svF m g)).2.2.2.2.1 k = m.2.2.2.2.1 k := fun k hk => by
    show kb m'.2.2.2.2.1 (svF m g) 133 5 k = _
    unfold kb
    rw [if_pos (by omega), svF_fo m g (by omega)]
  have eV : ∀ j, j < 30 → (mfBack m' (svF m g)).2.2.2.2.2 j = m.2.2.2.2.2 j := fun j hj => by
    show kb m'.2.2.2.2.2 (svF m g) 138 30 j = _
    unfold kb
    rw [if_pos (by omega), svF_va m g (by omega)]
  have eS : ∀ q, q < 64 → (mfBack m' (svF m g)).2.1 q = m.2.1 q := fun q hq => by
    show kb m'.2.1 (svF m g) 0 64 q = _
    unfold kb
    rw [if_pos hq, Nat.zero_add, svF_so m g hq]
  refine ⟨fun v hv => (r1 v hv).trans (stO_ext h1 (fun q hq => by rw [eS q (by omega)])), fun q hq => by rw [eS q (by omega)]; exact r2 q hq, fun k hk => ?_, fun k hk v hv => ?_, fun k hk => ⟨?_, ?_, fun v hv => ?_⟩⟩
  · rw [eH k (by omega), eF k (by omega)]; exact r3 k hk
  · rw [eV (6 * k + v) (by omega)]; exact r4 k hk v hv
  · rw [eH k (by omega)]; exact (r5 k hk).1
  · rw [eF k (by omega)]; exact (r5 k hk).2.1
  · rw [eV (6 * k + v) (by omega)]; exact (r5 k hk).2.2 v hv
theorem RSs_bec {s : Sg} {a b : CF} {m : MF} (hN : s.2.2 ≤ 5) (r : RSs s a m) : RSs s (cfBecome a b) m := by
  obtain ⟨r1, r2, r3, r4, r5⟩ := r
  refine ⟨fun v hv => ?_, r2, fun k hk => ?_, fun k hk v hv => ?_, r5⟩
  · exact (show cpL a.2.2.1 b.2.2.1 6 v = a.2.2.1 v from if_pos hv).trans (r1 v hv)
  · exact ⟨(show cpI a.2.2.2.1 b.2.2.2.1 5 k = a.2.2.2.1 k from if_pos (by omega)).trans (r3 k hk).1, (show cpI a.2.2.2.2.2.1 b.2.2.2.2.2.1 5 k = a.2.2.2.2.2.1 k from if_pos (by omega)).trans (r3 k hk).2⟩
  · refine (show bcW a.2.2.2.2.1 b.2.2.2.2.1 5 k v = a.2.2.2.2.1 k v from ?_).trans (r4 k hk v hv)
    unfold bcW
    rw [if_pos (show k < 5 by omega)]
    exact if_pos hv
/-- a set goes over to one soil -/
theorem RSs_lay {s : Sg} {c : CF} {m : MF} {v : Nat} {set : Int64} {P : Nat → Bool} {so' : Nat → Int32} (h1 : s.1 * s.2.1 ≤ 64) (hv : v < 6) (hs : set = stO P (s.1 * s.2.1)) (e : ∀ q, q < s.1 * s.2.1 → so' q = if P q = true then Int32.ofNat v else m.2.1 q) (r : RSs s c m) : RSs s (c.1, c.2.1, giveS c.2.2.1 6 set v, c.2.2.2) (m.1, so', m.2.2) := by
  obtain ⟨r1, r2, r3, r4, r5⟩ := r
  refine ⟨fun u hu => ?_, fun q hq => ?_, r3, r4, r5⟩
  · show giveS c.2.2.1 6 set v u = stO (fun q => decide (so' q = Int32.ofNat u)) (s.1 * s.2.1)
    have gu : ∀ u, u < 6 → gvF c.2.2.1 set 6 u = c.2.2.1 u &&& (set ^^^ lM1) := fun u hu => if_pos hu
    refine bt_ext (fun i hi => ?_)
    rw [bt_stO _ _ h1]
    by_cases z : i < s.1 * s.2.1
    · rw [decide_eq_true z, Bool.true_and, e i z]
      have k1 : bt (c.2.2.1 u) i = decide (m.2.1 i = Int32.ofNat u) := by rw [r1 u hu, bt_stO _ _ h1, decide_eq_true z, Bool.true_and]
      have k2 : bt set i = P i := by rw [hs, bt_stO _ _ h1, decide_eq_true z, Bool.true_and]
      by_cases w : u = v
      · subst w
        rw [show giveS c.2.2.1 6 set u u = gvF c.2.2.1 set 6 u ||| set from if_pos rfl, gu u hu, bt_or, bt_and, bt_not, k1, k2, decide_eq_true hi, Bool.true_and]
        cases hp : P i
        · rw [if_neg (by decide), Bool.not_false, Bool.and_true, Bool.or_false]
        · rw [if_pos rfl, Bool.or_true, decide_eq_true rfl]
      · rw [show giveS c.2.2.1 6 set v u = gvF c.2.2.1 set 6 u from if_neg w, gu u hu, bt_and, bt_not, k1, k2, decide_eq_true hi, Bool.true_and]
        cases hp : P i
        · rw [if_neg (by decide), Bool.not_false, Bool.and_true]
        · rw [if_pos rfl, Bool.not_true, Bool.and_false]
          exact (decide_eq_false (fun y => w (ofN_inj (by omega) (by omega) y).symm)).symm
    · rw [decide_eq_false z, Bool.false_and]
      have k1 : bt (c.2.2.1 u) i = false := by rw [r1 u hu, bt_stO _ _ h1, decide_eq_false z, Bool.false_and]
      have k2 : bt set i = false := by rw [hs, bt_stO _ _ h1, decide_eq_false z, Bool.false_and]
      by_cases w : u = v
      · subst w
        rw [show giveS c.2.2.1 6 set u u = gvF c.2.2.1 set 6 u ||| set from if_pos rfl, gu u hu, bt_or, bt_and, k1, k2]
        rfl
      · rw [show giveS c.2.2.1 6 set v u = gvF c.2.2.1 set 6 u from if_neg w, gu u hu, bt_and, k1]
        rfl
  · show ∃ v, v < 6 ∧ so' q = Int32.ofNat v
    rw [e q hq]
    cases hp : P q
    · rw [if_neg (by decide)]; exact r2 q hq
    · rw [if_pos rfl]; exact ⟨v, hv, rfl⟩
theorem bt_low2 {n i : Nat} (hn : n < 1000) (hi : i < 64) : bt (lowS (Int32.ofNat n)) i = decide (i < n) := by
  rw [bt_low hi, ofN_toInt (by omega)]
  exact decide_eq_decide.mpr (by omega)
theorem RSs_do {s : Sg} {c : CF} {m : MF} {a : Act} (g : gdF c s.1 s.2.1) (q : sgI c s) (p : sgJ m.1 s) (k : actOk s a) (r : RSs s c m) : RSs (sgDo s a) (cfDo c a) (mfDo m a) := by
  have hn := gdF_n g
  obtain ⟨i, x, y, z⟩ := a
  match i, k with
  | 0, k =>
    obtain ⟨r1, r2, r3, r4, r5⟩ := r
    have k : 2 ≤ x ∧ x ≤ 8 ∧ 2 ≤ y ∧ y ≤ 8 := k
    have g2 := (gdF_size (c := c) k.1 k.2.1 k.2.2.1 k.2.2.2)
    have n2 := gdF_n g2
    have lw : lowS (Int32.ofNat x * Int32.ofNat y) = stO (fun _ => true) (x * y) := g2.2.2.2.2.2.2.1
    refine ⟨fun v hv => ?_, fun q hq => ⟨0, by decide, (show fillF (Int32.ofInt 0) m.2.1 64 q = _ from if_pos (by have hq : q < x * y := hq; omega))⟩, r3, r4, r5⟩
    show vp_updL (zrF c.2.2.1 6) 0 (lowS (Int32.ofNat x * Int32.ofNat y)) v = stO (fun q => decide (fillF (Int32.ofInt 0) m.2.1 64 q = Int32.ofNat v)) (x * y)
    have e0 : ∀ q, q < x * y → fillF (Int32.ofInt 0) m.2.1 64 q = Int32.ofNat 0 := fun q hq => if_pos (by omega)
    by_cases w : v = 0
    · subst w
      rw [show vp_updL (zrF c.2.2.1 6) 0 (lowS (Int32.ofNat x * Int32.ofNat y)) 0 = _ from if_pos rfl, lw]
      exact stO_ext n2.1 (fun q hq => by rw [e0 q hq, decide_eq_true rfl])
    · rw [show vp_updL (zrF c.2.2.1 6) 0 (lowS (Int32.ofNat x * Int32.ofNat y)) v = zrF c.2.2.1 6 v from if_neg w, show zrF c.2.2.1 6 v = Int64.ofNat 0 from if_pos hv]
      exact (stO_no n2.1 (fun q hq => by rw [e0 q hq]; exact decide_eq_false (fun z => w (ofN_inj (by omega) (by omega) z).symm))).symm
  | 1, k =>
    have k : x < 6 ∧ y ≤ z ∧ z < s.1 * s.2.1 := k
    have g2 : c.2.1 2 = stO (fun _ => true) (s.1 * s.2.1) := g.2.2.2.2.2.2.1
    show RSs s (c.1, c.2.1, giveS c.2.2.1 6 ((lowS (Int32.ofNat (z + 1)) &&& c.2.1 2) &&& ((lowS (Int32.ofNat y) &&& c.2.1 2) ^^^ Int64.ofNat 18446744073709551615)) x, c.2.2.2) (m.1, (fun i => if y ≤ i ∧ i ≤ z then Int32.ofNat x else m.2.1 i), m.2.2)
    refine RSs_lay (s := s) (P := fun q => decide (y ≤ q ∧ q ≤ z)) hn.1 k.1 (bt_ext (fun i hi => ?_)) (fun q hq => ?_) r
    · show bt ((lowS (Int32.ofNat (z + 1)) &&& c.2.1 2) &&& ((lowS (Int32.ofNat y) &&& c.2.1 2) ^^^ lM1)) i = _
      rw [bt_and, bt_and, bt_not, bt_and, g2, bt_stO _ _ hn.1, bt_stO _ _ hn.1, bt_low2 (by omega) hi, bt_low2 (by omega) hi, decide_eq_true hi, Bool.true_and, Bool.and_true]
      by_cases w : i < s.1 * s.2.1
      · rw [decide_eq_true w, Bool.true_and, Bool.and_true, Bool.and_true]
        by_cases w1 : i < z + 1
        · by_cases w2 : i < y
          · rw [decide_eq_true w1, decide_eq_true w2, decide_eq_false (show ¬ (y ≤ i ∧ i ≤ z) by omega)]; rfl
          · rw [decide_eq_true w1, decide_eq_false w2, decide_eq_true (show y ≤ i ∧ i ≤ z by omega)]; rfl
        · rw [decide_eq_false w1, decide_eq_false (show ¬ (y ≤ i ∧ i ≤ z) by omega)]; rfl
      · rw [decide_eq_false w, Bool.and_false, Bool.false_and, Bool.false_and]
    · show (if y ≤ q ∧ q ≤ z then Int32.ofNat x else m.2.1 q) = _
      by_cases w : y ≤ q ∧ q ≤ z
      · rw [if_pos w, if_pos (decide_eq_true w)]
      · rw [if_neg w, if_neg (by rw [decide_eq_false w]; decide)]
  | 2, k => exact r
  | 3, k =>
    have k3 : s.2.2 < 5 := k.2.2
    have eN := ofN_toInt (n := s.2.2) (by omega)
    have e1 : (c.1 11).toNatClampNeg = s.2.2 := by rw [q.2.2.1]; exact i_nat eN
    have e2 : (m.1 6).toNatClampNeg = s.2.2 := by rw [p.2.2.1]; exact i_nat eN
    show RSs (s.1, s.2.1, s.2.2 + 1) (cfHeir (c.1 11).toNatClampNeg (Int32.ofNat x) c) (mfHeir (m.1 6).toNatClampNeg (Int32.ofNat x) m)
    rw [e1, e2]
    obtain ⟨r1, r2, r3, r4, r5⟩ := r
    have kx : 1 ≤ x ∧ x ≤ 9 := ⟨k.1, k.2.1⟩
    refine ⟨r1, r2, fun k hk => ?_, fun k hk v hv => ?_, fun k hk => ⟨?_, ?_, fun v hv => ?_⟩⟩
    · have hk : k < s.2.2 + 1 := hk
      show upd c.2.2.2.1 s.2.2 (Int32.ofNat x) k = upd m.2.2.2.1 s.2.2 (Int32.ofNat x) k ∧ upd c.2.2.2.2.2.1 s.2.2 0 k = upd m.2.2.2.2.1 s.2.2 (Int32.ofInt 0) k
      by_cases w : k = s.2.2
      · rw [w, u_at, u_at, u_at, u_at]; exact ⟨rfl, rfl⟩
      · rw [u_ne w, u_ne w, u_ne w, u_ne w]; exact r3 k (by omega)
    · have hk : k < s.2.2 + 1 := hk
      show (if k = s.2.2 then tenF (c.2.2.2.2.1 s.2.2) 6 else c.2.2.2.2.1 k) v = tenV m.2.2.2.2.2 s.2.2 6 (6 * k + v)
      unfold tenV
      by_cases w : k = s.2.2
      · rw [if_pos w, if_pos (show 6 * s.2.2 ≤ 6 * k + v ∧ 6 * k + v < 6 * s.2.2 + 6 by omega)]
        exact if_pos hv
      · rw [if_neg w, if_neg (show ¬ (6 * s.2.2 ≤ 6 * k + v ∧ 6 * k + v < 6 * s.2.2 + 6) by omega)]
        exact r4 k (by omega) v hv
    · have hk : k < s.2.2 + 1 := hk
      show ∃ n, 1 ≤ n ∧ n ≤ 9 ∧ upd m.2.2.2.1 s.2.2 (Int32.ofNat x) k = Int32.ofNat n
      by_cases w : k = s.2.2
      · rw [w, u_at]; exact ⟨x, kx.1, kx.2, rfl⟩
      · rw [u_ne w]; exact (r5 k (by omega)).1
    · have hk : k < s.2.2 + 1 := hk
      show upd m.2.2.2.2.1 s.2.2 (Int32.ofInt 0) k = 0 ∨ upd m.2.2.2.2.1 s.2.2 (Int32.ofInt 0) k = 1
      by_cases w : k = s.2.2
      · rw [w, u_at]; exact Or.inl rfl
      · rw [u_ne w]; exact (r5 k (by omega)).2.1
    · have hk : k < s.2.2 + 1 := hk
      show ∃ n, n < 100 ∧ tenV m.2.2.2.2.2 s.2.2 6 (6 * k + v) = Int32.ofNat n
      unfold tenV
      by_cases w : k = s.2.2
      · rw [if_pos (show 6 * s.2.2 ≤ 6 * k + v ∧ 6 * k + v < 6 * s.2.2 + 6 by omega)]; exact ⟨10, by decide, rfl⟩
      · rw [if_neg (show ¬ (6 * s.2.2 ≤ 6 * k + v ∧ 6 * k + v < 6 * s.2.2 + 6) by omega)]; exact (r5 k (by omega)).2.2 v hv
  | i + 4, k =>
    have k : x < s.2.2 ∧ y < 6 ∧ z < 100 := k
    obtain ⟨r1, r2, r3, r4, r5⟩ := r
    refine ⟨r1, r2, r3, fun k' hk v hv => ?_, fun k' hk => ⟨(r5 k' hk).1, (r5 k' hk).2.1, fun v hv => ?_⟩⟩
    rotate_left
    · show ∃ n, n < 100 ∧ upd m.2.2.2.2.2 (6 * x + y) (Int32.ofNat z) (6 * k' + v) = Int32.ofNat n
      by_cases w : 6 * k' + v = 6 * x + y
      · rw [w, u_at]; exact ⟨z, k.2.2, rfl⟩
      · rw [u_ne w]; exact (r5 k' hk).2.2 v hv
    have hk : k' < s.2.2 := hk
    show (if k' = x then upd (c.2.2.2.2.1 x) y (Int32.ofNat z) else c.2.2.2.2.1 k') v = upd m.2.2.2.2.2 (6 * x + y) (Int32.ofNat z) (6 * k' + v)
    by_cases w : k' = x
    · subst w
      rw [if_pos rfl]
      by_cases w2 : v = y
      · rw [w2, u_at, u_at]
      · rw [u_ne w2, u_ne (by omega)]; exact r4 k' hk v hv
    · rw [if_neg w, u_ne (by omega)]; exact r4 k' hk v hv
theorem RPs_do {s : Sg} {m : MF} {a : Act} (k : actOk s a) (r : RPs s m.1) : RPs (sgDo s a) (mfDo m a).1 := by
  obtain ⟨i, x, y, z⟩ := a
  match i, k with
  | 0, k =>
    intro j hj
    show okPl (x * y) (j : Int) (szJ (Int32.ofNat x) (Int32.ofNat y) m.1 (2 + j)).toInt
    rcases (show j = 0 ∨ j = 1 ∨ j = 2 ∨ j = 3 by omega) with rfl | rfl | rfl | rfl
    · exact okPl_n (r 0 hj) (Or.inl rfl)
    · exact Or.inr (Or.inl ⟨Or.inl rfl, Or.inl rfl⟩)
    · exact Or.inr (Or.inl ⟨Or.inr rfl, Or.inl rfl⟩)
    · exact okPl_n (r 3 hj) (Or.inr rfl)
  | 1, k => exact r
  | 2, k =>
    have k1 : x < 4 ∧ y < 100 ∧ okPl (s.1 * s.2.1) x y := k
    intro j hj
    show okPl (s.1 * s.2.1) (j : Int) (upd m.1 (2 + x) (Int32.ofNat y) (2 + j)).toInt
    by_cases w : j = x
    · rw [w, u_at, ofN_toInt (by omega)]; exact k1.2.2
    · rw [u_ne (by omega)]; exact r j hj
  | 3, k =>
    intro j hj
    show okPl (s.1 * s.2.1) (j : Int) (upd m.1 6 (Int32.ofNat ((m.1 6).toNatClampNeg + 1)) (2 + j)).toInt
    rw [u_ne (by omega)]
    exact r j hj
  | i + 4, k => exact r
theorem RB_ok : relOk RB := by
  refine ⟨fun c m m' r q => ⟨RN_ok.1 c m m' r.1 q, fun s hs => ⟨RSs_c (r.2 s hs).1 rfl q.2, RPs_J (r.2 s hs).2 q.1⟩⟩, fun c m s a r q p k => ?_, fun a b m r => ?_, fun c m m' g r => ?_, fun c m r => r.1, fun c m s k v r q hk hv => ?_⟩
  · have z := sg_do q p k
    obtain ⟨s', sI, -, gF, -⟩ := RN_sg r.1
    have e : s' = s := sgI_inj sI q
    subst e
    exact RB_mk (RN_ok.2.1 c m s' a r.1 q p k) z.1 (RSs_do gF q p k (r.2 s' q).1) (RPs_do k (r.2 s' q).2)
  · obtain ⟨s, sI, -⟩ := RN_sgI r.1
    have sI2 : sgI (cfBecome a b) s := ⟨(bc_I a.1 b.1 0 (by decide)).trans sI.1, (bc_I a.1 b.1 1 (by decide)).trans sI.2.1, (bc_I a.1 b.1 11 (by decide)).trans sI.2.2.1, sI.2.2.2⟩
    exact RB_mk (RN_ok.2.2.1 a b m r.1) sI2 (RSs_bec sI.2.2.2.2.2.2.2 (r.2 s sI).1) (r.2 s sI).2
  · obtain ⟨s, sI, -, gF, -⟩ := RN_sg r.1
    exact RB_mk (RN_ok.2.2.2.1 c m m' g r.1) sI (RSs_back (gdF_n gF).1 sI.2.2.2.2.2.2.2 (r.2 s sI).1 m' g) (RPs_J (r.2 s sI).2 (fun j hj => bk_sv j hj))
  · have sI2 : sgI (upd c.1 (7 + k) v, c.2) s := ⟨(u_ne (show (0 : Nat) ≠ 7 + k by omega)).trans q.1, (u_ne (show (1 : Nat) ≠ 7 + k by omega)).trans q.2.1, (u_ne (show (11 : Nat) ≠ 7 + k by omega)).trans q.2.2.1, q.2.2.2⟩
    refine RB_mk (RN_ok.2.2.2.2.2 c m s k v r.1 q hk hv) sI2 (RSs_c (r.2 s q).1 rfl rfl) (fun j hj => ?_)
    show okPl (s.1 * s.2.1) (j : Int) (upd m.1 (2 + k) v (2 + j)).toInt
    by_cases w : j = k
    · rw [w, u_at]; exact hv
    · rw [u_ne (by omega)]; exact (r.2 s q).2 j hj
theorem RB_no : noOw RB := fun c m o1 o2 r => by
  refine ⟨RN_J (m' := (m.1, m.2.1, o2, m.2.2.2)) (RN_C (c' := (c.1, c.2.1, c.2.2.1, c.2.2.2.1, c.2.2.2.2.1, c.2.2.2.2.2.1, o1)) r.1 (fun _ _ => rfl) (fun _ _ _ => rfl)) (fun _ _ => rfl), fun s hs => ?_⟩
  exact r.2 s hs
end
section
/-! ===== soil, worths, fond of both ===== -/
theorem s_hr11 {d : Nat} {h : sHp} {p : Nat} {c : CF} {N : Nat} {i : Int32} (hd : 1 ≤ d) (F : FC h p c) (hI : c.1 11 = Int32.ofNat N) (hN : N ≤ 5) : sDo d 23 [.ref p, .int i] h (fun r h' => h' = h ∧ ((0 ≤ i.toInt ∧ i.toInt < (N : Int)) ∧ r = some (.int 1) ∨ ¬ (0 ≤ i.toInt ∧ i.toInt < (N : Int)) ∧ r = some (.int 0))) := by
  have eI : (c.1 11).toInt = ((N : Nat) : Int) := by rw [hI]; exact ofN_toInt (by omega)
  refine sDo_of1 (nL := 2) (L := [some (.ref p), some (.int i)]) hd rfl rfl ?_
  refine g_iload_n (i := 1) rfl rfl ?_
  have k_2 : (0 : Int32).toInt = 0 := rfl
  refine g_if_lt 21 rfl rfl (fun c_1 => ?_) (fun c_1 => ?_)
  · skip
    rw [i_lt, k_2] at c_1
    refine g_iconst (n := 0) rfl ?_
    refine g_ireturn (ty := .boolean) rfl rfl (by decide) ?_
    exact ⟨rfl, Or.inr ⟨by omega, rfl⟩⟩
  · skip
    rw [i_lt, k_2] at c_1
    refine g_iload_n (i := 1) rfl rfl ?_
    refine g_aload_n (i := 0) rfl rfl ?_
    refine g_getfield (v := .int (c.1 11)) rfl F.1 (by decide) rfl ?_
    refine g_icmp_ge 21 rfl rfl (fun c_3 => ?_) (fun c_3 => ?_)
    · skip
      rw [i_le, eI] at c_3
      refine g_iconst (n := 0) rfl ?_
      refine g_ireturn (ty := .boolean) rfl rfl (by decide) ?_
      exact ⟨rfl, Or.inr ⟨by omega, rfl⟩⟩
    · skip
      rw [i_le, eI] at c_3
      refine g_iload_n (i := 1) rfl rfl ?_
      refine g_iconst (n := 5) rfl ?_
      have k_5 : (Int32.ofInt 5).toInt = 5 := rfl
      refine g_icmp_ge 21 rfl rfl (fun c_4 => ?_) (fun c_4 => ?_)
      · skip
        rw [i_le, k_5] at c_4
        refine g_iconst (n := 0) rfl ?_
        refine g_ireturn (ty := .boolean) rfl rfl (by decide) ?_
        exact ⟨rfl, Or.inr ⟨by omega, rfl⟩⟩
      · skip
        rw [i_le, k_5] at c_4
        refine g_iconst (n := 1) rfl ?_
        refine g_goto 22 rfl rfl ?_
        refine g_ireturn (ty := .boolean) rfl rfl (by decide) ?_
        exact ⟨rfl, Or.inl ⟨by omega, rfl⟩⟩
theorem s_hr12 {d : Nat} {h : sHp} {J : Nat → Int32} {N : Nat} {i : Int32} (hd : 1 ≤ d) (hr : h[60]? = some (mO J)) (hI : J 6 = Int32.ofNat N) (hN : N ≤ 5) : sDo d 173 [.ref 60, .int i] h (fun r h' => h' = h ∧ ((0 ≤ i.toInt ∧ i.toInt < (N : Int)) ∧ r = some (.int 1) ∨ ¬ (0 ≤ i.toInt ∧ i.toInt < (N : Int)) ∧ r = some (.int 0))) := by
  have eI : (J 6).toInt = ((N : Nat) : Int) := by rw [hI]; exact ofN_toInt (by omega)
  refine sDo_of1 (nL := 2) (L := [some (.ref 60), some (.int i)]) hd rfl rfl ?_
  refine g_iload_n (i := 1) rfl rfl ?_
  have k_2 : (0 : Int32).toInt = 0 := rfl
  refine g_if_lt 16 rfl rfl (fun c_1 => ?_) (fun c_1 => ?_)
  · skip
    rw [i_lt, k_2] at c_1
    refine g_iconst (n := 0) rfl ?_
    refine g_ireturn (ty := .boolean) rfl rfl (by decide) ?_
    exact ⟨rfl, Or.inr ⟨by omega, rfl⟩⟩
  · skip
    rw [i_lt, k_2] at c_1
    refine g_iload_n (i := 1) rfl rfl ?_
    refine g_aload_n (i := 0) rfl rfl ?_
    refine g_getfield (v := .int (J 6)) rfl hr (by decide) rfl ?_
    refine g_icmp_ge 16 rfl rfl (fun c_3 => ?_) (fun c_3 => ?_)
    · skip
      rw [i_le, eI] at c_3
      refine g_iconst (n := 0) rfl ?_
      refine g_ireturn (ty := .boolean) rfl rfl (by decide) ?_
      exact ⟨rfl, Or.inr ⟨by omega, rfl⟩⟩
    · skip
      rw [i_le, eI] at c_3
      refine g_iconst (n := 1) rfl ?_
      refine g_goto 17 rfl rfl ?_
      refine g_ireturn (ty := .boolean) rfl rfl (by decide) ?_
      exact ⟨rfl, Or.inl ⟨by omega, rfl⟩⟩
theorem s_only8 {d : Nat} {h : sHp} {p : Nat} {c : CF} {W H k : Nat} (hd : 2 ≤ d) (F : FC h p c) (g : gdF c W H) (hk : k < W * H) : sDo d 25 [.ref p, .int (Int32.ofNat k)] h (fun r h' => h' = h ∧ r = some (.long (Int64.ofNat 1 <<< ((Int32.ofNat k).toInt64 &&& 63)))) := by
  have hn := gdF_n g
  have ek := ofN_toInt (n := k) (by omega)
  refine sDo_of1 (nL := 2) (L := [some (.ref p), some (.int (Int32.ofNat k))]) (by omega) rfl rfl ?_
  refine g_aload_n (i := 0) rfl rfl ?_
  refine g_iload_n (i := 1) rfl rfl ?_
  refine g_virt1 (Qc := fun r h' => h' = h ∧ (((0 ≤ (Int32.ofNat k).toInt ∧ (Int32.ofNat k).toInt < ((W * H : Nat) : Int)) ∧ r = some (.int 1)) ∨ (¬ (0 ≤ (Int32.ofNat k).toInt ∧ (Int32.ofNat k).toInt < ((W * H : Nat) : Int)) ∧ r = some (.int 0)))) rfl (by decide) rfl F.1 rfl (Nat.le_of_ble_eq_true rfl) (s_isSq11 (by omega) F g) (fun r h hq9 => ?_)
  obtain ⟨rfl, ⟨c_1, rfl⟩ | ⟨c_1, rfl⟩⟩ := hq9
  · skip
    refine g_if_eq 14 rfl rfl (fun hc => absurd hc (by decide)) (fun _ => ?_)
    refine g_lconst (n := 1) rfl ?_
    show sGo none 25 _ 9 [some (.ref p), some (.int (Int32.ofNat k))] [.long (Int64.ofNat 1)] _ _
    refine g_iload_n (i := 1) rfl rfl ?_
    refine g_lshl rfl ?_
    refine g_goto 15 rfl rfl ?_
    refine g_lreturn rfl rfl ?_
    exact ⟨rfl, rfl⟩
  · skip
    omega
theorem bt_pick {x : Int64} {q : Nat} (hq : q < 64) : x &&& (Int64.ofNat 1 <<< ((Int32.ofNat q).toInt64 &&& 63)) = Int64.ofNat 0 ↔ bt x q = false := by
  rw [bt_eq0]
  constructor
  · intro h
    have := h q hq
    rw [bt_and, bt_one hq, decide_eq_true rfl, Bool.and_true] at this
    exact this
  · intro h i hi
    rw [bt_and, bt_one hq]
    by_cases e : i = q
    · rw [e, h, Bool.false_and]
    · rw [decide_eq_false e, Bool.and_false]
theorem s_soilAt {d : Nat} {h : sHp} {p : Nat} {c : CF} {W H q V : Nat} (hd : 2 ≤ d) (F : FC h p c) (g : gdF c W H) (hq : q < W * H) (hV : V < 6) (hb : ∀ u, u < 6 → bt (c.2.2.1 u) q = decide (u = V)) : ∀ (f k : Nat), k + f = V → sGo none 32 d 2 [some (.ref p), some (.int (Int32.ofNat q)), some (.int (Int32.ofNat k))] [] h (fun r h' => h' = h ∧ r = some (.int (Int32.ofNat V))) := by
  have hn := gdF_n g
  intro f
  induction f with
  | zero =>
    intro k hk
    have ek := ofN_toInt (n := k) (by omega)
    have e6 : (Int8.ofInt 6).toInt32.toInt = 6 := rfl
    have eV : k = V := by omega
    subst eV
    refine g_iload_n (i := 2) rfl rfl ?_
    refine g_bipush (n := 6) rfl ?_
    refine g_icmp_ge 33 rfl rfl (fun hc => absurd hc (by rw [i_le, ek, e6]; omega)) (fun _ => ?_)
    refine g_aload_n (i := 0) rfl rfl ?_
    refine g_getfield (v := .ref (p + 1)) rfl F.1 (by decide) rfl ?_
    refine g_iload_n (i := 2) rfl rfl ?_
    refine g_laload (n := 6) (f := c.2.2.1) rfl F.2.1 (i_in (by omega) (by omega)) ?_
    rw [i_nat ek]
    refine g_aload_n (i := 0) rfl rfl ?_
    refine g_iload_n (i := 1) rfl rfl ?_
    refine g_virt1 (Qc := fun r h' => h' = h ∧ r = some (.long (Int64.ofNat 1 <<< ((Int32.ofNat q).toInt64 &&& 63)))) rfl (by decide) rfl F.1 rfl (Nat.le_of_ble_eq_true rfl) (s_only8 (by omega) F g (by omega)) (fun r h hq9 => ?_)
    obtain ⟨rfl, rfl⟩ := hq9
    refine g_land rfl ?_
    refine g_lconst (n := 0) rfl ?_
    show sGo none 32 _ 21 [some (.ref p), some (.int (Int32.ofNat q)), some (.int (Int32.ofNat k))] [.long (Int64.ofNat 0), .long ((c.2.2.1 k) &&& (Int64.ofNat 1 <<< ((Int32.ofNat q).toInt64 &&& 63)))] _ _
    refine g_lcmp rfl ?_
    refine g_if_eq 27 rfl rfl (fun c_1 => ?_) (fun c_1 => ?_)
    · skip
      rw [lc_eq] at c_1
      refine g_iinc (i := 2) (L1 := [some (.ref p), some (.int (Int32.ofNat q)), some (.int ((Int32.ofNat k) + Int32.ofInt 1))]) rfl rfl rfl ?_
      rw [ofN_add (by omega)]
      refine g_goto 2 rfl rfl ?_
      exact absurd ((bt_pick (by omega)).mp c_1) (by rw [hb k hV, decide_eq_true rfl]; decide)
    · skip
      rw [lc_eq] at c_1
      refine g_iload_n (i := 2) rfl rfl ?_
      refine g_ireturn (ty := .int) rfl rfl rfl ?_
      exact ⟨rfl, rfl⟩
  | succ f ih =>
    intro k hk
    have ek := ofN_toInt (n := k) (by omega)
    have e6 : (Int8.ofInt 6).toInt32.toInt = 6 := rfl
    refine g_iload_n (i := 2) rfl rfl ?_
    refine g_bipush (n := 6) rfl ?_
    refine g_icmp_ge 33 rfl rfl (fun hc => absurd hc (by rw [i_le, ek, e6]; omega)) (fun _ => ?_)
    refine g_aload_n (i := 0) rfl rfl ?_
    refine g_getfield (v := .ref (p + 1)) rfl F.1 (by decide) rfl ?_
    refine g_iload_n (i := 2) rfl rfl ?_
    refine g_laload (n := 6) (f := c.2.2.1) rfl F.2.1 (i_in (by omega) (by omega)) ?_
    rw [i_nat ek]
    refine g_aload_n (i := 0) rfl rfl ?_
    refine g_iload_n (i := 1) rfl rfl ?_
    refine g_virt1 (Qc := fun r h' => h' = h ∧ r = some (.long (Int64.ofNat 1 <<< ((Int32.ofNat q).toInt64 &&& 63)))) rfl (by decide) rfl F.1 rfl (Nat.le_of_ble_eq_true rfl) (s_only8 (by omega) F g (by omega)) (fun r h hq9 => ?_)
    obtain ⟨rfl, rfl⟩ := hq9
    refine g_land rfl ?_
    refine g_lconst (n := 0) rfl ?_
    show sGo none 32 _ 21 [some (.ref p), some (.int (Int32.ofNat q)), some (.int (Int32.ofNat k))] [.long (Int64.ofNat 0), .long ((c.2.2.1 k) &&& (Int64.ofNat 1 <<< ((Int32.ofNat q).toInt64 &&& 63)))] _ _
    refine g_lcmp rfl ?_
    refine g_if_eq 27 rfl rfl (fun c_1 => ?_) (fun c_1 => ?_)
    · skip
      rw [lc_eq] at c_1
      refine g_iinc (i := 2) (L1 := [some (.ref p), some (.int (Int32.ofNat q)), some (.int ((Int32.ofNat k) + Int32.ofInt 1))]) rfl rfl rfl ?_
      rw [ofN_add (by omega)]
      refine g_goto 2 rfl rfl ?_
      exact ih (k + 1) (by omega)
    · skip
      rw [lc_eq] at c_1
      refine g_iload_n (i := 2) rfl rfl ?_
      refine g_ireturn (ty := .int) rfl rfl rfl ?_
      exact absurd ((bt_pick (by omega)).mpr (by rw [hb k (by omega), decide_eq_false (show ¬ k = V by omega)])) c_1
theorem sa0 {d : Nat} {h : sHp} {p : Nat} {c : CF} {W H q V : Nat} (hd : 3 ≤ d) (F : FC h p c) (g : gdF c W H) (hq : q < W * H) (hV : V < 6) (hb : ∀ u, u < 6 → bt (c.2.2.1 u) q = decide (u = V)) : sDo d 32 [.ref p, .int (Int32.ofNat q)] h (fun r h' => h' = h ∧ r = some (.int (Int32.ofNat V))) := by
  obtain ⟨d, rfl⟩ : ∃ e, d = e + 1 := ⟨d - 1, by omega⟩
  refine sDo_of (d := d) (nL := 3) (L := [some (.ref p), some (.int (Int32.ofNat q)), none]) rfl rfl ?_
  refine g_iconst (n := 0) rfl ?_
  refine g_istore_n (i := 2) (L1 := [some (.ref p), some (.int (Int32.ofNat q)), some (.int (Int32.ofInt 0))]) rfl (Nat.le_of_ble_eq_true rfl) rfl ?_
  exact s_soilAt (d := d) (by omega) F g hq hV hb V 0 (by omega)
theorem s_soil11 {d : Nat} {h : sHp} {ik tf : Int32} {R : Nat → Int32} {c : CF} {W H q V U : Nat} (hd : 5 ≤ d) (h0 : h[0]? = some (cO ik tf)) (hR : h[43]? = some (rFc R)) (F : FC h 5 c) (g : gdF c W H) (hq : q < W * H) (hU : U < 6) (hV : V < 6) (hb : ∀ u, u < 6 → bt (c.2.2.1 u) q = decide (u = U)) : sDo d 125 [.ref 0, .int (Int32.ofNat q), .int (Int32.ofNat V)] h (fun r h' => r = some (.int (Int32.ofNat U)) ∧ h' = h.set 6 (.inl (1, 6, .inr (.inl (giveS c.2.2.1 6 (Int64.ofNat 1 <<< ((Int32.ofNat q).toInt64 &&& 63)) V))))) := by
  have hn := gdF_n g
  have eq := ofN_toInt (n := q) (by omega)
  have eV := ofN_toInt (n := V) (by omega)
  refine sDo_of1 (nL := 4) (L := [some (.ref 0), some (.int (Int32.ofNat q)), some (.int (Int32.ofNat V)), none]) (by omega) rfl rfl ?_
  refine g_aload_n (i := 0) rfl rfl ?_
  refine g_getfield (v := .ref 5) rfl h0 (by decide) rfl ?_
  refine g_iload_n (i := 1) rfl rfl ?_
  refine g_virt1 (Qc := fun r h' => h' = h ∧ (((0 ≤ (Int32.ofNat q).toInt ∧ (Int32.ofNat q).toInt < ((W * H : Nat) : Int)) ∧ r = some (.int 1)) ∨ (¬ (0 ≤ (Int32.ofNat q).toInt ∧ (Int32.ofNat q).toInt < ((W * H : Nat) : Int)) ∧ r = some (.int 0)))) rfl (by decide) rfl F.1 rfl (Nat.le_of_ble_eq_true rfl) (s_isSq11 (by omega) F g) (fun r h hq9 => ?_)
  obtain ⟨rfl, ⟨c_1, rfl⟩ | ⟨c_1, rfl⟩⟩ := hq9
  · skip
    refine g_if_eq 21 rfl rfl (fun hc => absurd hc (by decide)) (fun _ => ?_)
    refine g_iload_n (i := 2) rfl rfl ?_
    have k_3 : (0 : Int32).toInt = 0 := rfl
    refine g_if_lt 21 rfl rfl (fun c_2 => ?_) (fun c_2 => ?_)
    · skip
      rw [i_lt, eV, k_3] at c_2
      refine g_aload_n (i := 0) rfl rfl ?_
      refine g_iconst (n := (-1)) rfl ?_
      omega
    · skip
      rw [i_lt, eV, k_3] at c_2
      refine g_iload_n (i := 2) rfl rfl ?_
      refine g_bipush (n := 6) rfl ?_
      have k_5 : ((Int8.ofInt 6).toInt32).toInt = 6 := rfl
      refine g_icmp_lt 27 rfl rfl (fun c_4 => ?_) (fun c_4 => ?_)
      · skip
        rw [i_lt, eV, k_5] at c_4
        refine g_aload_n (i := 0) rfl rfl ?_
        refine g_getfield (v := .ref 5) rfl h0 (by decide) rfl ?_
        refine g_iload_n (i := 1) rfl rfl ?_
        refine g_virt1 (Qc := fun r h' => h' = h ∧ r = some (.int (Int32.ofNat U))) rfl (by decide) rfl F.1 rfl (Nat.le_of_ble_eq_true rfl) (sa0 (by omega) F g hq hU hb) (fun r h hq9 => ?_)
        obtain ⟨rfl, rfl⟩ := hq9
        refine g_istore_n (i := 3) (L1 := [some (.ref 0), some (.int (Int32.ofNat q)), some (.int (Int32.ofNat V)), some (.int (Int32.ofNat U))]) rfl (Nat.le_of_ble_eq_true rfl) rfl ?_
        refine g_aload_n (i := 0) rfl rfl ?_
        refine g_getfield (v := .ref 5) rfl h0 (by decide) rfl ?_
        refine g_aload_n (i := 0) rfl rfl ?_
        refine g_getfield (v := .ref 5) rfl h0 (by decide) rfl ?_
        refine g_iload_n (i := 1) rfl rfl ?_
        refine g_virt1 (Qc := fun r h' => h' = h ∧ r = some (.long (Int64.ofNat 1 <<< ((Int32.ofNat q).toInt64 &&& 63)))) rfl (by decide) rfl F.1 rfl (Nat.le_of_ble_eq_true rfl) (s_only8 (by omega) F g (by omega)) (fun r h hq9 => ?_)
        obtain ⟨rfl, rfl⟩ := hq9
        refine g_iload_n (i := 2) rfl rfl ?_
        refine g_virt2 (Qc := fun r h' => r = none ∧ h' = h.set (5 + 1) (.inl (1, 6, .inr (.inl (giveS c.2.2.1 6 (Int64.ofNat 1 <<< ((Int32.ofNat q).toInt64 &&& 63)) V))))) rfl (by decide) rfl F.1 rfl (Nat.le_of_ble_eq_true rfl) (sDo_up (d := 2) (by omega) (s_laySoil (d := 0) (set := (Int64.ofNat 1 <<< ((Int32.ofNat q).toInt64 &&& 63))) F eV hV)) (fun r h9 hq9 => ?_)
        obtain ⟨rfl, rfl⟩ := hq9
        refine g_iload_n (i := 3) rfl rfl ?_
        refine g_ireturn (ty := .int) rfl rfl rfl ?_
        exact ⟨rfl, rfl⟩
      · skip
        rw [i_lt, eV, k_5] at c_4
        refine g_aload_n (i := 0) rfl rfl ?_
        refine g_iconst (n := (-1)) rfl ?_
        omega
  · skip
    omega
theorem s_soil11n {d : Nat} {h : sHp} {ik tf : Int32} {R : Nat → Int32} {c : CF} {W H : Nat} {x v : Int32} (hd : 4 ≤ d) (h0 : h[0]? = some (cO ik tf)) (hR : h[43]? = some (rFc R)) (F : FC h 5 c) (g : gdF c W H) (hx : ¬ ((0 ≤ x.toInt ∧ x.toInt < ((W * H : Nat) : Int)) ∧ 0 ≤ v.toInt ∧ v.toInt < 6)) : sDo d 125 [.ref 0, .int x, .int v] h (fun r h' => r = some (.int (-1)) ∧ h' = h.set 43 (rFc (bump R 1))) := by
  refine sDo_of1 (nL := 4) (L := [some (.ref 0), some (.int x), some (.int v), none]) (by omega) rfl rfl ?_
  refine g_aload_n (i := 0) rfl rfl ?_
  refine g_getfield (v := .ref 5) rfl h0 (by decide) rfl ?_
  refine g_iload_n (i := 1) rfl rfl ?_
  refine g_virt1 (Qc := fun r h' => h' = h ∧ (((0 ≤ x.toInt ∧ x.toInt < ((W * H : Nat) : Int)) ∧ r = some (.int 1)) ∨ (¬ (0 ≤ x.toInt ∧ x.toInt < ((W * H : Nat) : Int)) ∧ r = some (.int 0)))) rfl (by decide) rfl F.1 rfl (Nat.le_of_ble_eq_true rfl) (s_isSq11 (by omega) F g) (fun r h hq9 => ?_)
  obtain ⟨rfl, ⟨c_1, rfl⟩ | ⟨c_1, rfl⟩⟩ := hq9
  · skip
    refine g_if_eq 21 rfl rfl (fun hc => absurd hc (by decide)) (fun _ => ?_)
    refine g_iload_n (i := 2) rfl rfl ?_
    have k_3 : (0 : Int32).toInt = 0 := rfl
    refine g_if_lt 21 rfl rfl (fun c_2 => ?_) (fun c_2 => ?_)
    · skip
      rw [i_lt, k_3] at c_2
      refine g_aload_n (i := 0) rfl rfl ?_
      refine g_iconst (n := (-1)) rfl ?_
      refine g_virt1 (Qc := fun r h' => r = some (.int ((Int32.ofInt (-1)))) ∧ h' = h.set 43 (rFc (bump R 1))) rfl (by decide) rfl h0 rfl (Nat.le_of_ble_eq_true rfl) (s_refuse2 (X := 1) (by omega) h0 hR rfl (by decide)) (fun r h9 hq9 => ?_)
      obtain ⟨rfl, rfl⟩ := hq9
      refine g_ireturn (ty := .int) rfl rfl rfl ?_
      exact ⟨rfl, rfl⟩
    · skip
      rw [i_lt, k_3] at c_2
      refine g_iload_n (i := 2) rfl rfl ?_
      refine g_bipush (n := 6) rfl ?_
      have k_5 : ((Int8.ofInt 6).toInt32).toInt = 6 := rfl
      refine g_icmp_lt 27 rfl rfl (fun c_4 => ?_) (fun c_4 => ?_)
      · skip
        rw [i_lt, k_5] at c_4
        exfalso; omega
      · skip
        rw [i_lt, k_5] at c_4
        refine g_aload_n (i := 0) rfl rfl ?_
        refine g_iconst (n := (-1)) rfl ?_
        refine g_virt1 (Qc := fun r h' => r = some (.int ((Int32.ofInt (-1)))) ∧ h' = h.set 43 (rFc (bump R 1))) rfl (by decide) rfl h0 rfl (Nat.le_of_ble_eq_true rfl) (s_refuse2 (X := 1) (by omega) h0 hR rfl (by decide)) (fun r h9 hq9 => ?_)
        obtain ⟨rfl, rfl⟩ := hq9
        refine g_ireturn (ty := .int) rfl rfl rfl ?_
        exact ⟨rfl, rfl⟩
  · skip
    refine g_if_eq 21 rfl rfl (fun _ => ?_) (fun hc => absurd hc (by decide))
    refine g_aload_n (i := 0) rfl rfl ?_
    refine g_iconst (n := (-1)) rfl ?_
    refine g_virt1 (Qc := fun r h' => r = some (.int ((Int32.ofInt (-1)))) ∧ h' = h.set 43 (rFc (bump R 1))) rfl (by decide) rfl h0 rfl (Nat.le_of_ble_eq_true rfl) (s_refuse2 (X := 1) (by omega) h0 hR rfl (by decide)) (fun r h9 hq9 => ?_)
    obtain ⟨rfl, rfl⟩ := hq9
    refine g_ireturn (ty := .int) rfl rfl rfl ?_
    exact ⟨rfl, rfl⟩
theorem s_soil12 {d : Nat} {h : sHp} {m : MF} {W H q V : Nat} (hd : 3 ≤ d) (M : MC h m) (g : gdM m.1 W H) (hq : q < W * H) (hV : V < 6) : sDo d 205 [.ref 60, .int (Int32.ofNat q), .int (Int32.ofNat V)] h (fun r h' => r = some (.int (m.2.1 q)) ∧ h' = h.set 62 (.inl (0, 64, .inl (upd m.2.1 q (Int32.ofNat V))))) := by
  have hn : W * H ≤ 64 := wh_le8 g.2.2.2.1 g.2.2.2.2.2
  have eq := ofN_toInt (n := q) (by omega)
  have eV := ofN_toInt (n := V) (by omega)
  refine sDo_of1 (nL := 4) (L := [some (.ref 60), some (.int (Int32.ofNat q)), some (.int (Int32.ofNat V)), none]) (by omega) rfl rfl ?_
  refine g_aload_n (i := 0) rfl rfl ?_
  refine g_iload_n (i := 1) rfl rfl ?_
  refine g_virt1 (Qc := fun r h' => h' = h ∧ (((0 ≤ (Int32.ofNat q).toInt ∧ (Int32.ofNat q).toInt < ((W * H : Nat) : Int)) ∧ r = some (.int 1)) ∨ (¬ (0 ≤ (Int32.ofNat q).toInt ∧ (Int32.ofNat q).toInt < ((W * H : Nat) : Int)) ∧ r = some (.int 0)))) rfl (by decide) rfl M.1 rfl (Nat.le_of_ble_eq_true rfl) (s_isSq12 (by omega) M.1 g) (fun r h hq9 => ?_)
  obtain ⟨rfl, ⟨c_1, rfl⟩ | ⟨c_1, rfl⟩⟩ := hq9
  · skip
    refine g_if_eq 17 rfl rfl (fun hc => absurd hc (by decide)) (fun _ => ?_)
    refine g_iload_n (i := 2) rfl rfl ?_
    have k_3 : (0 : Int32).toInt = 0 := rfl
    refine g_if_lt 17 rfl rfl (fun c_2 => ?_) (fun c_2 => ?_)
    · skip
      rw [i_lt, eV, k_3] at c_2
      refine g_aload_n (i := 0) rfl rfl ?_
      refine g_iconst (n := (-1)) rfl ?_
      omega
    · skip
      rw [i_lt, eV, k_3] at c_2
      refine g_iload_n (i := 2) rfl rfl ?_
      refine g_iconst (n := 5) rfl ?_
      have k_5 : (Int32.ofInt 5).toInt = 5 := rfl
      refine g_icmp_le 23 rfl rfl (fun c_4 => ?_) (fun c_4 => ?_)
      · skip
        rw [i_le, eV, k_5] at c_4
        refine g_aload_n (i := 0) rfl rfl ?_
        refine g_getfield (v := .ref 62) rfl M.1 (by decide) rfl ?_
        refine g_iload_n (i := 1) rfl rfl ?_
        refine g_iaload (n := 64) (f := m.2.1) rfl M.2.1 (i_in (by omega) (by omega)) ?_
        rw [i_nat eq]
        refine g_istore_n (i := 3) (L1 := [some (.ref 60), some (.int (Int32.ofNat q)), some (.int (Int32.ofNat V)), some (.int (m.2.1 q))]) rfl (Nat.le_of_ble_eq_true rfl) rfl ?_
        refine g_aload_n (i := 0) rfl rfl ?_
        refine g_getfield (v := .ref 62) rfl M.1 (by decide) rfl ?_
        refine g_iload_n (i := 1) rfl rfl ?_
        refine g_iload_n (i := 2) rfl rfl ?_
        refine g_iastore (n := 64) (f := m.2.1) (h1 := h.set 62 (.inl (0, 64, .inl (upd m.2.1 q (Int32.ofNat V))))) rfl M.2.1 (i_in (by omega) (by omega)) (by rw [i_nat eq]) ?_
        refine g_iload_n (i := 3) rfl rfl ?_
        refine g_ireturn (ty := .int) rfl rfl rfl ?_
        exact ⟨rfl, rfl⟩
      · skip
        rw [i_le, eV, k_5] at c_4
        refine g_aload_n (i := 0) rfl rfl ?_
        refine g_iconst (n := (-1)) rfl ?_
        omega
  · skip
    omega
theorem s_soil12n {d : Nat} {h : sHp} {R : Nat → Int32} {m : MF} {W H : Nat} {x v : Int32} (hd : 3 ≤ d) (M : MC h m) (hR : h[61]? = some (rFc R)) (g : gdM m.1 W H) (hx : ¬ ((0 ≤ x.toInt ∧ x.toInt < ((W * H : Nat) : Int)) ∧ 0 ≤ v.toInt ∧ v.toInt < 6)) : sDo d 205 [.ref 60, .int x, .int v] h (fun r h' => r = some (.int (-1)) ∧ h' = h.set 61 (rFc (bump R 1))) := by
  refine sDo_of1 (nL := 4) (L := [some (.ref 60), some (.int x), some (.int v), none]) (by omega) rfl rfl ?_
  refine g_aload_n (i := 0) rfl rfl ?_
  refine g_iload_n (i := 1) rfl rfl ?_
  refine g_virt1 (Qc := fun r h' => h' = h ∧ (((0 ≤ x.toInt ∧ x.toInt < ((W * H : Nat) : Int)) ∧ r = some (.int 1)) ∨ (¬ (0 ≤ x.toInt ∧ x.toInt < ((W * H : Nat) : Int)) ∧ r = some (.int 0)))) rfl (by decide) rfl M.1 rfl (Nat.le_of_ble_eq_true rfl) (s_isSq12 (by omega) M.1 g) (fun r h hq9 => ?_)
  obtain ⟨rfl, ⟨c_1, rfl⟩ | ⟨c_1, rfl⟩⟩ := hq9
  · skip
    refine g_if_eq 17 rfl rfl (fun hc => absurd hc (by decide)) (fun _ => ?_)
    refine g_iload_n (i := 2) rfl rfl ?_
    have k_3 : (0 : Int32).toInt = 0 := rfl
    refine g_if_lt 17 rfl rfl (fun c_2 => ?_) (fun c_2 => ?_)
    · skip
      rw [i_lt, k_3] at c_2
      refine g_aload_n (i := 0) rfl rfl ?_
      refine g_iconst (n := (-1)) rfl ?_
      refine g_virt1 (Qc := fun r h' => r = some (.int ((Int32.ofInt (-1)))) ∧ h' = h.set 61 (rFc (bump R 1))) rfl (by decide) rfl M.1 rfl (Nat.le_of_ble_eq_true rfl) (s_no2 (X := 1) (by omega) M.1 hR rfl (by decide)) (fun r h9 hq9 => ?_)
      obtain ⟨rfl, rfl⟩ := hq9
      refine g_ireturn (ty := .int) rfl rfl rfl ?_
      exact ⟨rfl, rfl⟩
    · skip
      rw [i_lt, k_3] at c_2
      refine g_iload_n (i := 2) rfl rfl ?_
      refine g_iconst (n := 5) rfl ?_
      have k_5 : (Int32.ofInt 5).toInt = 5 := rfl
      refine g_icmp_le 23 rfl rfl (fun c_4 => ?_) (fun c_4 => ?_)
      · skip
        rw [i_le, k_5] at c_4
        exfalso; omega
      · skip
        rw [i_le, k_5] at c_4
        refine g_aload_n (i := 0) rfl rfl ?_
        refine g_iconst (n := (-1)) rfl ?_
        refine g_virt1 (Qc := fun r h' => r = some (.int ((Int32.ofInt (-1)))) ∧ h' = h.set 61 (rFc (bump R 1))) rfl (by decide) rfl M.1 rfl (Nat.le_of_ble_eq_true rfl) (s_no2 (X := 1) (by omega) M.1 hR rfl (by decide)) (fun r h9 hq9 => ?_)
        obtain ⟨rfl, rfl⟩ := hq9
        refine g_ireturn (ty := .int) rfl rfl rfl ?_
        exact ⟨rfl, rfl⟩
  · skip
    refine g_if_eq 17 rfl rfl (fun _ => ?_) (fun hc => absurd hc (by decide))
    refine g_aload_n (i := 0) rfl rfl ?_
    refine g_iconst (n := (-1)) rfl ?_
    refine g_virt1 (Qc := fun r h' => r = some (.int ((Int32.ofInt (-1)))) ∧ h' = h.set 61 (rFc (bump R 1))) rfl (by decide) rfl M.1 rfl (Nat.le_of_ble_eq_true rfl) (s_no2 (X := 1) (by omega) M.1 hR rfl (by decide)) (fun r h9 hq9 => ?_)
    obtain ⟨rfl, rfl⟩ := hq9
    refine g_ireturn (ty := .int) rfl rfl rfl ?_
    exact ⟨rfl, rfl⟩
theorem s_worths11 {d : Nat} {h : sHp} {ik tf : Int32} {c : CF} {N i V X : Nat} (hd : 3 ≤ d) (h0 : h[0]? = some (cO ik tf)) (F : FC h 5 c) (hI : c.1 11 = Int32.ofNat N) (hN : N ≤ 5) (hi : i < N) (hV : V < 6) (hX : X < 100) : sDo d 128 [.ref 0, .int (Int32.ofNat i), .int (Int32.ofNat V), .int (Int32.ofNat X)] h (fun r h' => r = some (.int (c.2.2.2.2.1 i V)) ∧ h' = h.set (5 + 4 + i) (.inl (0, 6, .inl (upd (c.2.2.2.2.1 i) V (Int32.ofNat X))))) := by
  have ei := ofN_toInt (n := i) (by omega)
  have eV := ofN_toInt (n := V) (by omega)
  have eX := ofN_toInt (n := X) (by omega)
  obtain ⟨f, a3, a4⟩ := id F.2.2.2.1
  have a5 := F.2.2.2.2.1 i (by omega)
  refine sDo_of1 (nL := 5) (L := [some (.ref 0), some (.int (Int32.ofNat i)), some (.int (Int32.ofNat V)), some (.int (Int32.ofNat X)), none]) (by omega) rfl rfl ?_
  refine g_aload_n (i := 0) rfl rfl ?_
  refine g_getfield (v := .ref 5) rfl h0 (by decide) rfl ?_
  refine g_iload_n (i := 1) rfl rfl ?_
  refine g_virt1 (Qc := fun r h' => h' = h ∧ (((0 ≤ (Int32.ofNat i).toInt ∧ (Int32.ofNat i).toInt < (N : Int)) ∧ r = some (.int 1)) ∨ (¬ (0 ≤ (Int32.ofNat i).toInt ∧ (Int32.ofNat i).toInt < (N : Int)) ∧ r = some (.int 0)))) rfl (by decide) rfl F.1 rfl (Nat.le_of_ble_eq_true rfl) (s_hr11 (by omega) F hI hN) (fun r h hq9 => ?_)
  obtain ⟨rfl, ⟨c_1, rfl⟩ | ⟨c_1, rfl⟩⟩ := hq9
  · skip
    refine g_if_eq 21 rfl rfl (fun hc => absurd hc (by decide)) (fun _ => ?_)
    refine g_iload_n (i := 2) rfl rfl ?_
    have k_3 : (0 : Int32).toInt = 0 := rfl
    refine g_if_lt 21 rfl rfl (fun c_2 => ?_) (fun c_2 => ?_)
    · skip
      rw [i_lt, eV, k_3] at c_2
      refine g_aload_n (i := 0) rfl rfl ?_
      refine g_iconst (n := (-1)) rfl ?_
      omega
    · skip
      rw [i_lt, eV, k_3] at c_2
      refine g_iload_n (i := 2) rfl rfl ?_
      refine g_bipush (n := 6) rfl ?_
      have k_5 : ((Int8.ofInt 6).toInt32).toInt = 6 := rfl
      refine g_icmp_lt 27 rfl rfl (fun c_4 => ?_) (fun c_4 => ?_)
      · skip
        rw [i_lt, eV, k_5] at c_4
        refine g_iload_n (i := 3) rfl rfl ?_
        refine g_if_lt 37 rfl rfl (fun c_6 => ?_) (fun c_6 => ?_)
        · skip
          rw [i_lt, eX, k_3] at c_6
          refine g_aload_n (i := 0) rfl rfl ?_
          refine g_bipush (n := (-6)) rfl ?_
          omega
        · skip
          rw [i_lt, eX, k_3] at c_6
          refine g_iload_n (i := 3) rfl rfl ?_
          refine g_bipush (n := 99) rfl ?_
          have k_8 : ((Int8.ofInt 99).toInt32).toInt = 99 := rfl
          refine g_icmp_le 44 rfl rfl (fun c_7 => ?_) (fun c_7 => ?_)
          · skip
            rw [i_le, eX, k_8] at c_7
            refine g_aload_n (i := 0) rfl rfl ?_
            refine g_getfield (v := .ref 5) rfl h0 (by decide) rfl ?_
            refine g_getfield (v := .ref (5 + 3)) rfl F.1 (by decide) rfl ?_
            refine g_iload_n (i := 1) rfl rfl ?_
            refine g_aaload rfl a3 (by decide) (i_in (by omega) (by omega)) ?_
            rw [i_nat ei, a4 i (by omega)]
            show sGo none 128 _ 53 [some (.ref 0), some (.int (Int32.ofNat i)), some (.int (Int32.ofNat V)), some (.int (Int32.ofNat X)), none] (.ref (5 + 4 + i) :: []) _ _
            refine g_iload_n (i := 2) rfl rfl ?_
            refine g_iaload (n := 6) (f := (c.2.2.2.2.1 i)) rfl a5 (i_in (by omega) (by omega)) ?_
            rw [i_nat eV]
            refine g_istore (i := 4) (L1 := [some (.ref 0), some (.int (Int32.ofNat i)), some (.int (Int32.ofNat V)), some (.int (Int32.ofNat X)), some (.int ((c.2.2.2.2.1 i) V))]) rfl (Nat.le_of_ble_eq_true rfl) rfl ?_
            refine g_aload_n (i := 0) rfl rfl ?_
            refine g_getfield (v := .ref 5) rfl h0 (by decide) rfl ?_
            refine g_getfield (v := .ref (5 + 3)) rfl F.1 (by decide) rfl ?_
            refine g_iload_n (i := 1) rfl rfl ?_
            refine g_aaload rfl a3 (by decide) (i_in (by omega) (by omega)) ?_
            rw [i_nat ei, a4 i (by omega)]
            show sGo none 128 _ 66 [some (.ref 0), some (.int (Int32.ofNat i)), some (.int (Int32.ofNat V)), some (.int (Int32.ofNat X)), some (.int ((c.2.2.2.2.1 i) V))] (.ref (5 + 4 + i) :: []) _ _
            refine g_iload_n (i := 2) rfl rfl ?_
            refine g_iload_n (i := 3) rfl rfl ?_
            refine g_iastore (n := 6) (f := (c.2.2.2.2.1 i)) (h1 := h.set (5 + 4 + i) (.inl (0, 6, .inl (upd (c.2.2.2.2.1 i) V (Int32.ofNat X))))) rfl a5 (i_in (by omega) (by omega)) (by rw [i_nat eV]) ?_
            refine g_iload (i := 4) rfl rfl ?_
            refine g_ireturn (ty := .int) rfl rfl rfl ?_
            exact ⟨rfl, rfl⟩
          · skip
            rw [i_le, eX, k_8] at c_7
            refine g_aload_n (i := 0) rfl rfl ?_
            refine g_bipush (n := (-6)) rfl ?_
            omega
      · skip
        rw [i_lt, eV, k_5] at c_4
        refine g_aload_n (i := 0) rfl rfl ?_
        refine g_iconst (n := (-1)) rfl ?_
        omega
  · skip
    omega
theorem s_worths11n {d : Nat} {h : sHp} {ik tf : Int32} {R : Nat → Int32} {c : CF} {N : Nat} {x v y : Int32} (hd : 3 ≤ d) (h0 : h[0]? = some (cO ik tf)) (hR : h[43]? = some (rFc R)) (F : FC h 5 c) (hI : c.1 11 = Int32.ofNat N) (hN : N ≤ 5) (hx : ¬ ((0 ≤ x.toInt ∧ x.toInt < (N : Int)) ∧ (0 ≤ v.toInt ∧ v.toInt < 6) ∧ 0 ≤ y.toInt ∧ y.toInt < 100)) : sDo d 128 [.ref 0, .int x, .int v, .int y] h (fun r h' => (¬ ((0 ≤ x.toInt ∧ x.toInt < (N : Int)) ∧ (0 ≤ v.toInt ∧ v.toInt < 6)) ∧ r = some (.int (-1)) ∧ h' = h.set 43 (rFc (bump R 1))) ∨ (((0 ≤ x.toInt ∧ x.toInt < (N : Int)) ∧ (0 ≤ v.toInt ∧ v.toInt < 6)) ∧ r = some (.int (-6)) ∧ h' = h.set 43 (rFc (bump R 6)))) := by
  refine sDo_of1 (nL := 5) (L := [some (.ref 0), some (.int x), some (.int v), some (.int y), none]) (by omega) rfl rfl ?_
  refine g_aload_n (i := 0) rfl rfl ?_
  refine g_getfield (v := .ref 5) rfl h0 (by decide) rfl ?_
  refine g_iload_n (i := 1) rfl rfl ?_
  refine g_virt1 (Qc := fun r h' => h' = h ∧ (((0 ≤ x.toInt ∧ x.toInt < (N : Int)) ∧ r = some (.int 1)) ∨ (¬ (0 ≤ x.toInt ∧ x.toInt < (N : Int)) ∧ r = some (.int 0)))) rfl (by decide) rfl F.1 rfl (Nat.le_of_ble_eq_true rfl) (s_hr11 (by omega) F hI hN) (fun r h hq9 => ?_)
  obtain ⟨rfl, ⟨c_1, rfl⟩ | ⟨c_1, rfl⟩⟩ := hq9
  · skip
    refine g_if_eq 21 rfl rfl (fun hc => absurd hc (by decide)) (fun _ => ?_)
    refine g_iload_n (i := 2) rfl rfl ?_
    have k_3 : (0 : Int32).toInt = 0 := rfl
    refine g_if_lt 21 rfl rfl (fun c_2 => ?_) (fun c_2 => ?_)
    · skip
      rw [i_lt, k_3] at c_2
      refine g_aload_n (i := 0) rfl rfl ?_
      refine g_iconst (n := (-1)) rfl ?_
      refine g_virt1 (Qc := fun r h' => r = some (.int ((Int32.ofInt (-1)))) ∧ h' = h.set 43 (rFc (bump R 1))) rfl (by decide) rfl h0 rfl (Nat.le_of_ble_eq_true rfl) (s_refuse2 (X := 1) (by omega) h0 hR rfl (by decide)) (fun r h9 hq9 => ?_)
      obtain ⟨rfl, rfl⟩ := hq9
      refine g_ireturn (ty := .int) rfl rfl rfl ?_
      exact Or.inl ⟨by omega, rfl, rfl⟩
    · skip
      rw [i_lt, k_3] at c_2
      refine g_iload_n (i := 2) rfl rfl ?_
      refine g_bipush (n := 6) rfl ?_
      have k_5 : ((Int8.ofInt 6).toInt32).toInt = 6 := rfl
      refine g_icmp_lt 27 rfl rfl (fun c_4 => ?_) (fun c_4 => ?_)
      · skip
        rw [i_lt, k_5] at c_4
        refine g_iload_n (i := 3) rfl rfl ?_
        refine g_if_lt 37 rfl rfl (fun c_6 => ?_) (fun c_6 => ?_)
        · skip
          rw [i_lt, k_3] at c_6
          refine g_aload_n (i := 0) rfl rfl ?_
          refine g_bipush (n := (-6)) rfl ?_
          refine g_virt1 (Qc := fun r h' => r = some (.int ((Int8.ofInt (-6)).toInt32)) ∧ h' = h.set 43 (rFc (bump R 6))) rfl (by decide) rfl h0 rfl (Nat.le_of_ble_eq_true rfl) (s_refuse2 (X := 6) (by omega) h0 hR rfl (by decide)) (fun r h9 hq9 => ?_)
          obtain ⟨rfl, rfl⟩ := hq9
          refine g_ireturn (ty := .int) rfl rfl rfl ?_
          exact Or.inr ⟨by omega, rfl, rfl⟩
        · skip
          rw [i_lt, k_3] at c_6
          refine g_iload_n (i := 3) rfl rfl ?_
          refine g_bipush (n := 99) rfl ?_
          have k_8 : ((Int8.ofInt 99).toInt32).toInt = 99 := rfl
          refine g_icmp_le 44 rfl rfl (fun c_7 => ?_) (fun c_7 => ?_)
          · skip
            rw [i_le, k_8] at c_7
            exfalso; omega
          · skip
            rw [i_le, k_8] at c_7
            refine g_aload_n (i := 0) rfl rfl ?_
            refine g_bipush (n := (-6)) rfl ?_
            refine g_virt1 (Qc := fun r h' => r = some (.int ((Int8.ofInt (-6)).toInt32)) ∧ h' = h.set 43 (rFc (bump R 6))) rfl (by decide) rfl h0 rfl (Nat.le_of_ble_eq_true rfl) (s_refuse2 (X := 6) (by omega) h0 hR rfl (by decide)) (fun r h9 hq9 => ?_)
            obtain ⟨rfl, rfl⟩ := hq9
            refine g_ireturn (ty := .int) rfl rfl rfl ?_
            exact Or.inr ⟨by omega, rfl, rfl⟩
      · skip
        rw [i_lt, k_5] at c_4
        refine g_aload_n (i := 0) rfl rfl ?_
        refine g_iconst (n := (-1)) rfl ?_
        refine g_virt1 (Qc := fun r h' => r = some (.int ((Int32.ofInt (-1)))) ∧ h' = h.set 43 (rFc (bump R 1))) rfl (by decide) rfl h0 rfl (Nat.le_of_ble_eq_true rfl) (s_refuse2 (X := 1) (by omega) h0 hR rfl (by decide)) (fun r h9 hq9 => ?_)
        obtain ⟨rfl, rfl⟩ := hq9
        refine g_ireturn (ty := .int) rfl rfl rfl ?_
        exact Or.inl ⟨by omega, rfl, rfl⟩
  · skip
    refine g_if_eq 21 rfl rfl (fun _ => ?_) (fun hc => absurd hc (by decide))
    refine g_aload_n (i := 0) rfl rfl ?_
    refine g_iconst (n := (-1)) rfl ?_
    refine g_virt1 (Qc := fun r h' => r = some (.int ((Int32.ofInt (-1)))) ∧ h' = h.set 43 (rFc (bump R 1))) rfl (by decide) rfl h0 rfl (Nat.le_of_ble_eq_true rfl) (s_refuse2 (X := 1) (by omega) h0 hR rfl (by decide)) (fun r h9 hq9 => ?_)
    obtain ⟨rfl, rfl⟩ := hq9
    refine g_ireturn (ty := .int) rfl rfl rfl ?_
    exact Or.inl ⟨by omega, rfl, rfl⟩
theorem s_worths12 {d : Nat} {h : sHp} {m : MF} {N i V X : Nat} (hd : 3 ≤ d) (M : MC h m) (hI : m.1 6 = Int32.ofNat N) (hN : N ≤ 5) (hi : i < N) (hV : V < 6) (hX : X < 100) : sDo d 208 [.ref 60, .int (Int32.ofNat i), .int (Int32.ofNat V), .int (Int32.ofNat X)] h (fun r h' => r = some (.int (m.2.2.2.2.2 (6 * i + V))) ∧ h' = h.set 66 (.inl (0, 30, .inl (upd m.2.2.2.2.2 (6 * i + V) (Int32.ofNat X))))) := by
  have ei := ofN_toInt (n := i) (by omega)
  have eV := ofN_toInt (n := V) (by omega)
  have eX := ofN_toInt (n := X) (by omega)
  refine sDo_of1 (nL := 5) (L := [some (.ref 60), some (.int (Int32.ofNat i)), some (.int (Int32.ofNat V)), some (.int (Int32.ofNat X)), none]) (by omega) rfl rfl ?_
  refine g_aload_n (i := 0) rfl rfl ?_
  refine g_iload_n (i := 1) rfl rfl ?_
  refine g_virt1 (Qc := fun r h' => h' = h ∧ (((0 ≤ (Int32.ofNat i).toInt ∧ (Int32.ofNat i).toInt < (N : Int)) ∧ r = some (.int 1)) ∨ (¬ (0 ≤ (Int32.ofNat i).toInt ∧ (Int32.ofNat i).toInt < (N : Int)) ∧ r = some (.int 0)))) rfl (by decide) rfl M.1 rfl (Nat.le_of_ble_eq_true rfl) (s_hr12 (by omega) M.1 hI hN) (fun r h hq9 => ?_)
  obtain ⟨rfl, ⟨c_1, rfl⟩ | ⟨c_1, rfl⟩⟩ := hq9
  · skip
    refine g_if_eq 17 rfl rfl (fun hc => absurd hc (by decide)) (fun _ => ?_)
    refine g_iload_n (i := 2) rfl rfl ?_
    have k_3 : (0 : Int32).toInt = 0 := rfl
    refine g_if_lt 17 rfl rfl (fun c_2 => ?_) (fun c_2 => ?_)
    · skip
      rw [i_lt, eV, k_3] at c_2
      refine g_aload_n (i := 0) rfl rfl ?_
      refine g_iconst (n := (-1)) rfl ?_
      omega
    · skip
      rw [i_lt, eV, k_3] at c_2
      refine g_iload_n (i := 2) rfl rfl ?_
      refine g_iconst (n := 5) rfl ?_
      have k_5 : (Int32.ofInt 5).toInt = 5 := rfl
      refine g_icmp_le 23 rfl rfl (fun c_4 => ?_) (fun c_4 => ?_)
      · skip
        rw [i_le, eV, k_5] at c_4
        refine g_iload_n (i := 3) rfl rfl ?_
        refine g_if_lt 33 rfl rfl (fun c_6 => ?_) (fun c_6 => ?_)
        · skip
          rw [i_lt, eX, k_3] at c_6
          refine g_aload_n (i := 0) rfl rfl ?_
          refine g_bipush (n := (-6)) rfl ?_
          omega
        · skip
          rw [i_lt, eX, k_3] at c_6
          refine g_iload_n (i := 3) rfl rfl ?_
          refine g_bipush (n := 99) rfl ?_
          have k_8 : ((Int8.ofInt 99).toInt32).toInt = 99 := rfl
          refine g_icmp_le 40 rfl rfl (fun c_7 => ?_) (fun c_7 => ?_)
          · skip
            rw [i_le, eX, k_8] at c_7
            refine g_aload_n (i := 0) rfl rfl ?_
            refine g_getfield (v := .ref 66) rfl M.1 (by decide) rfl ?_
            refine g_bipush (n := 6) rfl ?_
            refine g_iload_n (i := 1) rfl rfl ?_
            have k_9 : ((Int8.ofInt 6).toInt32).toInt = 6 := rfl
            refine g_imul rfl ?_
            have t_10 : (((Int8.ofInt 6).toInt32 * (Int32.ofNat i))).toInt = ((6 * i : Nat) : Int) := n_mul (X := 6) (Y := i) (show _ = ((6 : Nat) : Int) from k_9) (show _ = ((i : Nat) : Int) from ei) (by omega)
            refine g_iload_n (i := 2) rfl rfl ?_
            refine g_iadd rfl ?_
            have t_11 : (((Int8.ofInt 6).toInt32 * (Int32.ofNat i)) + (Int32.ofNat V)).toInt = ((6 * i + V : Nat) : Int) := by rw [i_add (by rw [t_10, eV]; omega) (by rw [t_10, eV]; omega), t_10, eV]; omega
            refine g_iaload (n := 30) (f := m.2.2.2.2.2) rfl M.2.2.2.2.2 (i_in (by omega) (by omega)) ?_
            rw [i_nat t_11]
            refine g_istore (i := 4) (L1 := [some (.ref 60), some (.int (Int32.ofNat i)), some (.int (Int32.ofNat V)), some (.int (Int32.ofNat X)), some (.int (m.2.2.2.2.2 (6 * i + V)))]) rfl (Nat.le_of_ble_eq_true rfl) rfl ?_
            refine g_aload_n (i := 0) rfl rfl ?_
            refine g_getfield (v := .ref 66) rfl M.1 (by decide) rfl ?_
            refine g_bipush (n := 6) rfl ?_
            refine g_iload_n (i := 1) rfl rfl ?_
            refine g_imul rfl ?_
            refine g_iload_n (i := 2) rfl rfl ?_
            refine g_iadd rfl ?_
            have t_12 : (((Int8.ofInt 6).toInt32 * (Int32.ofNat i)) + (Int32.ofNat V)).toInt = ((6 * i + V : Nat) : Int) := by rw [i_add (by rw [t_10, eV]; omega) (by rw [t_10, eV]; omega), t_10, eV]; omega
            refine g_iload_n (i := 3) rfl rfl ?_
            refine g_iastore (n := 30) (f := m.2.2.2.2.2) (h1 := h.set 66 (.inl (0, 30, .inl (upd m.2.2.2.2.2 (6 * i + V) (Int32.ofNat X))))) rfl M.2.2.2.2.2 (i_in (by omega) (by omega)) (by rw [i_nat t_12]) ?_
            refine g_iload (i := 4) rfl rfl ?_
            refine g_ireturn (ty := .int) rfl rfl rfl ?_
            exact ⟨rfl, rfl⟩
          · skip
            rw [i_le, eX, k_8] at c_7
            refine g_aload_n (i := 0) rfl rfl ?_
            refine g_bipush (n := (-6)) rfl ?_
            omega
      · skip
        rw [i_le, eV, k_5] at c_4
        refine g_aload_n (i := 0) rfl rfl ?_
        refine g_iconst (n := (-1)) rfl ?_
        omega
  · skip
    omega
theorem s_worths12n {d : Nat} {h : sHp} {R : Nat → Int32} {m : MF} {N : Nat} {x v y : Int32} (hd : 3 ≤ d) (M : MC h m) (hR : h[61]? = some (rFc R)) (hI : m.1 6 = Int32.ofNat N) (hN : N ≤ 5) (hx : ¬ ((0 ≤ x.toInt ∧ x.toInt < (N : Int)) ∧ (0 ≤ v.toInt ∧ v.toInt < 6) ∧ 0 ≤ y.toInt ∧ y.toInt < 100)) : sDo d 208 [.ref 60, .int x, .int v, .int y] h (fun r h' => (¬ ((0 ≤ x.toInt ∧ x.toInt < (N : Int)) ∧ (0 ≤ v.toInt ∧ v.toInt < 6)) ∧ r = some (.int (-1)) ∧ h' = h.set 61 (rFc (bump R 1))) ∨ (((0 ≤ x.toInt ∧ x.toInt < (N : Int)) ∧ (0 ≤ v.toInt ∧ v.toInt < 6)) ∧ r = some (.int (-6)) ∧ h' = h.set 61 (rFc (bump R 6)))) := by
  refine sDo_of1 (nL := 5) (L := [some (.ref 60), some (.int x), some (.int v), some (.int y), none]) (by omega) rfl rfl ?_
  refine g_aload_n (i := 0) rfl rfl ?_
  refine g_iload_n (i := 1) rfl rfl ?_
  refine g_virt1 (Qc := fun r h' => h' = h ∧ (((0 ≤ x.toInt ∧ x.toInt < (N : Int)) ∧ r = some (.int 1)) ∨ (¬ (0 ≤ x.toInt ∧ x.toInt < (N : Int)) ∧ r = some (.int 0)))) rfl (by decide) rfl M.1 rfl (Nat.le_of_ble_eq_true rfl) (s_hr12 (by omega) M.1 hI hN) (fun r h hq9 => ?_)
  obtain ⟨rfl, ⟨c_1, rfl⟩ | ⟨c_1, rfl⟩⟩ := hq9
  · skip
    refine g_if_eq 17 rfl rfl (fun hc => absurd hc (by decide)) (fun _ => ?_)
    refine g_iload_n (i := 2) rfl rfl ?_
    have k_3 : (0 : Int32).toInt = 0 := rfl
    refine g_if_lt 17 rfl rfl (fun c_2 => ?_) (fun c_2 => ?_)
    · skip
      rw [i_lt, k_3] at c_2
      refine g_aload_n (i := 0) rfl rfl ?_
      refine g_iconst (n := (-1)) rfl ?_
      refine g_virt1 (Qc := fun r h' => r = some (.int ((Int32.ofInt (-1)))) ∧ h' = h.set 61 (rFc (bump R 1))) rfl (by decide) rfl M.1 rfl (Nat.le_of_ble_eq_true rfl) (s_no2 (X := 1) (by omega) M.1 hR rfl (by decide)) (fun r h9 hq9 => ?_)
      obtain ⟨rfl, rfl⟩ := hq9
      refine g_ireturn (ty := .int) rfl rfl rfl ?_
      exact Or.inl ⟨by omega, rfl, rfl⟩
    · skip
      rw [i_lt, k_3] at c_2
      refine g_iload_n (i := 2) rfl rfl ?_
      refine g_iconst (n := 5) rfl ?_
      have k_5 : (Int32.ofInt 5).toInt = 5 := rfl
      refine g_icmp_le 23 rfl rfl (fun c_4 => ?_) (fun c_4 => ?_)
      · skip
        rw [i_le, k_5] at c_4
        refine g_iload_n (i := 3) rfl rfl ?_
        refine g_if_lt 33 rfl rfl (fun c_6 => ?_) (fun c_6 => ?_)
        · skip
          rw [i_lt, k_3] at c_6
          refine g_aload_n (i := 0) rfl rfl ?_
          refine g_bipush (n := (-6)) rfl ?_
          refine g_virt1 (Qc := fun r h' => r = some (.int ((Int8.ofInt (-6)).toInt32)) ∧ h' = h.set 61 (rFc (bump R 6))) rfl (by decide) rfl M.1 rfl (Nat.le_of_ble_eq_true rfl) (s_no2 (X := 6) (by omega) M.1 hR rfl (by decide)) (fun r h9 hq9 => ?_)
          obtain ⟨rfl, rfl⟩ := hq9
          refine g_ireturn (ty := .int) rfl rfl rfl ?_
          exact Or.inr ⟨by omega, rfl, rfl⟩
        · skip
          rw [i_lt, k_3] at c_6
          refine g_iload_n (i := 3) rfl rfl ?_
          refine g_bipush (n := 99) rfl ?_
          have k_8 : ((Int8.ofInt 99).toInt32).toInt = 99 := rfl
          refine g_icmp_le 40 rfl rfl (fun c_7 => ?_) (fun c_7 => ?_)
          · skip
            rw [i_le, k_8] at c_7
            exfalso; omega
          · skip
            rw [i_le, k_8] at c_7
            refine g_aload_n (i := 0) rfl rfl ?_
            refine g_bipush (n := (-6)) rfl ?_
            refine g_virt1 (Qc := fun r h' => r = some (.int ((Int8.ofInt (-6)).toInt32)) ∧ h' = h.set 61 (rFc (bump R 6))) rfl (by decide) rfl M.1 rfl (Nat.le_of_ble_eq_true rfl) (s_no2 (X := 6) (by omega) M.1 hR rfl (by decide)) (fun r h9 hq9 => ?_)
            obtain ⟨rfl, rfl⟩ := hq9
            refine g_ireturn (ty := .int) rfl rfl rfl ?_
            exact Or.inr ⟨by omega, rfl, rfl⟩
      · skip
        rw [i_le, k_5] at c_4
        refine g_aload_n (i := 0) rfl rfl ?_
        refine g_iconst (n := (-1)) rfl ?_
        refine g_virt1 (Qc := fun r h' => r = some (.int ((Int32.ofInt (-1)))) ∧ h' = h.set 61 (rFc (bump R 1))) rfl (by decide) rfl M.1 rfl (Nat.le_of_ble_eq_true rfl) (s_no2 (X := 1) (by omega) M.1 hR rfl (by decide)) (fun r h9 hq9 => ?_)
        obtain ⟨rfl, rfl⟩ := hq9
        refine g_ireturn (ty := .int) rfl rfl rfl ?_
        exact Or.inl ⟨by omega, rfl, rfl⟩
  · skip
    refine g_if_eq 17 rfl rfl (fun _ => ?_) (fun hc => absurd hc (by decide))
    refine g_aload_n (i := 0) rfl rfl ?_
    refine g_iconst (n := (-1)) rfl ?_
    refine g_virt1 (Qc := fun r h' => r = some (.int ((Int32.ofInt (-1)))) ∧ h' = h.set 61 (rFc (bump R 1))) rfl (by decide) rfl M.1 rfl (Nat.le_of_ble_eq_true rfl) (s_no2 (X := 1) (by omega) M.1 hR rfl (by decide)) (fun r h9 hq9 => ?_)
    obtain ⟨rfl, rfl⟩ := hq9
    refine g_ireturn (ty := .int) rfl rfl rfl ?_
    exact Or.inl ⟨by omega, rfl, rfl⟩
end
