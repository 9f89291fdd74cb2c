section
/-! ===== calls that change nothing of the relation ===== -/
def vE (h h1 : sHp) : Prop := h1.length = h.length ∧ ∀ q, (q < 38 ∨ 43 < q) → h1[q]? = h[q]?
theorem vE_rfl {h : sHp} : vE h h := ⟨rfl, fun _ _ => rfl⟩
theorem vE_43 {h : sHp} {c : va_E} : vE h (h.set 43 c) := ⟨List.length_set, fun q hq => s_set_ne (by omega)⟩
theorem vE_at {h h1 : sHp} {q : Nat} {x : va_E} (e : vE h h1) (hx : h[q]? = some x) (hq : q < 38 ∨ 43 < q) : h1[q]? = some x := (e.2 q hq).trans hx
theorem pr_q {c1 c2 : bCn} {as : List Value} (h1 : bHolds c1) (h2 : bHolds c2) (d1 : Nat.ble c1.2.1 10 = true) (d2 : Nat.ble c2.2.1 10 = true) (g1 : Nat.ble c1.2.2.2.2.2.1 1 = true) (g2 : Nat.ble c2.2.2.2.2.2.1 1 = true) (o1 : c1.2.2.2.1 = []) (o2 : c2.2.2.2.1 = []) (t1 : ∀ h, bH h → bTl h c1.2.2.1 (.ref 0 :: as)) (t2 : ∀ h, bH h → bTl h c2.2.2.1 (.ref 60 :: as)) (w1 : ∀ b ∈ bR7M, c1.2.2.2.2.1.testBit b = false) (w2 : ∀ b ∈ bR7M, c2.2.2.2.2.1.testBit b = false) (e : ∀ h, bH h → bR7 h → ∃ v, sDo 10 c1.1 (.ref 0 :: as) h (fun r h1 => r = some v ∧ vE h h1) ∧ ∀ h1, bH h1 → vE h h1 → sDo 10 c2.1 (.ref 60 :: as) h1 (fun r _ => r = some v)) : pairR bR7 c1.1 c2.1 as := pr_mk h1 h2 d1 d2 g1 g2 o1 o2 t1 t2 (fun h hH hR => by
  obtain ⟨v, e1, e2⟩ := e h hH hR
  exact sDo_mono e1 (fun r1 h1' q hH1 fr1 => sDo_mono (e2 h1' hH1 q.2) (fun r2 h2' p hH2 fr2 => ⟨bR7_fr hH2 fr2 w2 (bR7_fr hH1 fr1 w1 hR), v, q.1, p⟩)))
theorem un7 {h : sHp} (hH : bH h) (hR : bR7 h) : ∃ (c : CF) (m : MF) (W H N : Nat) (ik tf : Int32) (R : Nat → Int32) (hd so sz co : Nat → Int32) (cl : Nat → Int64) (f g : Nat → Option Nat), FC h 5 c ∧ gdF c W H ∧ MC h m ∧ gdM m.1 W H ∧ h[0]? = some (cO ik tf) ∧ h[43]? = some (rFc R) ∧ bR4 h hd so sz co cl f g ∧ (∀ s, s < 8 → bRS hd so sz co cl g h s) ∧ N ≤ 5 ∧ c.1 11 = Int32.ofNat N ∧ m.1 6 = Int32.ofNat N := by
  obtain ⟨⟨hd, so, sz, co, cl, f, g, q4, bs⟩, I, G, Ik, Gk, ik, tf, J, gk, ⟨q5, -, q0, x5, -, -⟩, ⟨⟨J', M60, eJ, -⟩, -⟩, -, rn, -⟩ := hR
  obtain ⟨⟨s1, s2, s3, s4, s5⟩, F, -⟩ := FC_ext5 hH q5 x5
  obtain ⟨⟨n1, n2, n3, n4, n5⟩, M⟩ := MC_ext hH M60
  obtain ⟨R, hR⟩ := RA_of hH (p := 43) (Or.inl rfl)
  obtain ⟨W, H, N, gd, hN, c11, m0, m1, m6, -⟩ := rn
  have gd' := gd
  obtain ⟨g0, g1, w2, w8, h2, h8, -⟩ := gd'
  exact ⟨(I, G, s1, s2, s3, s4, s5), (J', n1, n2, n3, n4, n5), W, H, N, ik, tf, R, hd, so, sz, co, cl, f, g, F, gd, M, ⟨(eJ 0 (by decide)).trans m0, (eJ 1 (by decide)).trans m1, w2, w8, h2, h8⟩, q0, hR, q4, bs, hN, c11, (eJ 6 (by decide)).trans m6⟩
theorem s_noCutX {d : Nat} {h : sHp} {fs : List Value} {f g : Nat → Option Nat} {s : Int32} {S : Nat} {ot z nc : Int32} (hf : h[0]? = some (.inr (11, fs))) (f0 : fs[0]? = some (.ref 1)) (f1 : fs[1]? = some (.ref 2)) (a1 : h[1]? = some (.inl (3, 8, .inr (.inr (.inr (.inr f)))))) (a2 : ∀ s, s < 8 → f s = some (44 + 2 * s)) (a3 : h[2]? = some (.inl (4, 8, .inr (.inr (.inr (.inr g)))))) (hs : s.toInt = S) (hS : S < 8) (b1 : h[44 + 2 * S]? = some (.inr (7, [.int ot, .int z, .ref (45 + 2 * S)]))) (hn : (¬ ot = -1 ∧ nc = -2) ∨ (g S = none ∧ ot = -1 ∧ nc = -3) ∨ (∃ p, g S = some p ∧ ot = -1 ∧ nc = 0)) : sDo (d + 2) 162 [.ref 0, .int s] h (fun r h' => h' = h ∧ r = some (.int nc)) := by
  have sn : s.toNatClampNeg = S := i_nat hs
  have fS : va_rf (f s.toNatClampNeg) = .ref (44 + 2 * S) := by rw [sn, a2 S hS]; rfl
  refine sDo_of (d := d + 1) (nL := 2) (L := [some (.ref 0), some (.int s)]) rfl rfl ?_
  refine g_iload_n (i := 1) rfl rfl ?_
  refine g_static1 (Qc := fun r h' => h' = h ∧ r = some (.int 1)) rfl (by decide) rfl (Nat.le_of_ble_eq_true rfl) (s_sh11 (by rw [if_pos (by omega)])) (fun r h9 hq9 => ?_)
  obtain ⟨rfl, rfl⟩ := hq9
  refine g_if_ne 9 rfl rfl (fun _ => ?_) (fun hc => absurd hc (by decide))
  refine g_aload_n (i := 0) rfl rfl ?_
  refine g_getfield (v := .ref 1) rfl hf (by decide) f0 ?_
  refine g_iload_n (i := 1) rfl rfl ?_
  refine g_aaload rfl a1 (by decide) (i_in (by omega) (by omega)) ?_
  rw [fS]
  rcases hn with ⟨ho, rfl⟩ | ⟨hg, ho, rfl⟩ | ⟨p, hg, ho, rfl⟩
  · skip
    refine g_virt0 (Qc := fun r h' => h' = h9 ∧ r = some (.int 1)) rfl (by decide) rfl b1 rfl (Nat.le_of_ble_eq_true rfl) (s_isHeld b1 (by rw [if_neg ho])) (fun r h8 hq9 => ?_)
    obtain ⟨rfl, rfl⟩ := hq9
    refine g_if_eq 24 rfl rfl (fun hc => absurd hc (by decide)) (fun _ => ?_)
    refine g_bipush (n := (-2)) rfl ?_
    refine g_ireturn (ty := .int) rfl rfl rfl ?_
    exact ⟨rfl, rfl⟩
  · skip
    refine g_virt0 (Qc := fun r h' => h' = h9 ∧ r = some (.int 0)) rfl (by decide) rfl b1 rfl (Nat.le_of_ble_eq_true rfl) (s_isHeld b1 (by rw [if_pos ho])) (fun r h8 hq9 => ?_)
    obtain ⟨rfl, rfl⟩ := hq9
    refine g_if_eq 24 rfl rfl (fun _ => ?_) (fun hc => absurd hc (by decide))
    refine g_aload_n (i := 0) rfl rfl ?_
    refine g_getfield (v := .ref 2) rfl hf (by decide) f1 ?_
    refine g_iload_n (i := 1) rfl rfl ?_
    have hgS : va_rf (g s.toNatClampNeg) = .null := by rw [sn, hg]; rfl
    refine g_aaload rfl a3 (by decide) (i_in (by omega) (by omega)) ?_
    rw [hgS]
    refine g_ifnullN 37 rfl rfl ?_
    refine g_bipush (n := (-3)) rfl ?_
    refine g_ireturn (ty := .int) rfl rfl rfl ?_
    exact ⟨rfl, rfl⟩
  · skip
    refine g_virt0 (Qc := fun r h' => h' = h9 ∧ r = some (.int 0)) rfl (by decide) rfl b1 rfl (Nat.le_of_ble_eq_true rfl) (s_isHeld b1 (by rw [if_pos ho])) (fun r h8 hq9 => ?_)
    obtain ⟨rfl, rfl⟩ := hq9
    refine g_if_eq 24 rfl rfl (fun _ => ?_) (fun hc => absurd hc (by decide))
    refine g_aload_n (i := 0) rfl rfl ?_
    refine g_getfield (v := .ref 2) rfl hf (by decide) f1 ?_
    refine g_iload_n (i := 1) rfl rfl ?_
    have hgS : va_rf (g s.toNatClampNeg) = .ref p := by rw [sn, hg]; rfl
    refine g_aaload rfl a3 (by decide) (i_in (by omega) (by omega)) ?_
    rw [hgS]
    refine g_ifnull 37 rfl rfl ?_
    refine g_iconst (n := 0) rfl ?_
    refine g_goto 39 rfl rfl ?_
    refine g_ireturn (ty := .int) rfl rfl rfl ?_
    exact ⟨rfl, rfl⟩
theorem s_noCutOX {d : Nat} {h : sHp} {s : Int32} (hs : ¬ (0 ≤ s.toInt ∧ s.toInt < 8)) : sDo (d + 2) 162 [.ref 0, .int s] h (fun r h' => h' = h ∧ r = some (.int (-1))) := by
  refine sDo_of (d := d + 1) (nL := 2) (L := [some (.ref 0), some (.int s)]) rfl rfl ?_
  refine g_iload_n (i := 1) rfl rfl ?_
  refine g_static1 (Qc := fun r h' => h' = h ∧ r = some (.int 0)) rfl (by decide) rfl (Nat.le_of_ble_eq_true rfl) (s_sh11 (by rw [if_neg hs])) (fun r h9 hq9 => ?_)
  obtain ⟨rfl, rfl⟩ := hq9
  refine g_if_ne 9 rfl rfl (fun hc => absurd hc (by decide)) (fun _ => ?_)
  refine g_iconst (n := (-1)) rfl ?_
  refine g_ireturn (ty := .int) rfl rfl rfl ?_
  exact ⟨rfl, rfl⟩
/-- what noCut says of a shelf -/
def ncS (hd : Nat → Int32) (S : Nat) : Int32 := if hd S = 2 then 0 else if hd S = 1 then -2 else -3
theorem s_noCutIn {d : Nat} {h : sHp} {ik tf : Int32} {hd so sz co : Nat → Int32} {cl : Nat → Int64} {f g : Nat → Option Nat} {s : Int32} {S : Nat} (hd2 : 2 ≤ d) (h0 : h[0]? = some (cO ik tf)) (q4 : bR4 h hd so sz co cl f g) (bs : ∀ s, s < 8 → bRS hd so sz co cl g h s) (hs : s.toInt = S) (hS : S < 8) : sDo d 162 [.ref 0, .int s] h (fun r h' => h' = h ∧ r = some (.int (ncS hd S))) := by
  obtain ⟨e, rfl⟩ : ∃ e, d = e + 2 := ⟨d - 2, by omega⟩
  obtain ⟨ot, z, el, b1, -, b3⟩ := bs S hS
  obtain ⟨a1, a2, a3, -⟩ := q4
  refine s_noCutX h0 rfl rfl a1 a2 a3 hs hS b1 ?_
  unfold ncS
  rcases b3 with ⟨x1, x2, x3⟩ | ⟨x1, x2, x3, x4, -⟩ | ⟨x1, x2, pc, x3, x4, -⟩
  · exact Or.inr (Or.inl ⟨x2, x3, by rw [x1]; rfl⟩)
  · refine Or.inl ⟨fun z => ?_, by rw [x1]; rfl⟩
    rw [z] at x4
    exact absurd x4 (by decide)
  · exact Or.inr (Or.inr ⟨pc, x4, x2, by rw [x1]; rfl⟩)
theorem nc_b {hd : Nat → Int32} {S : Nat} (h1 : hd S = 0 ∨ hd S = 1) : ∃ B : Nat, (2 ≤ B ∧ B ≤ 3) ∧ (ncS hd S).toInt = -(B : Int) := by
  unfold ncS
  rcases h1 with e | e
  · rw [e]; exact ⟨3, by decide, by decide⟩
  · rw [e]; exact ⟨2, by decide, by decide⟩
theorem hd_3 {hd so sz co : Nat → Int32} {cl : Nat → Int64} {g : Nat → Option Nat} {h : sHp} {S : Nat} (b : bRS hd so sz co cl g h S) : hd S = 0 ∨ hd S = 1 ∨ hd S = 2 := by
  obtain ⟨ot, z, el, -, -, b3⟩ := b
  rcases b3 with ⟨e, -⟩ | ⟨e, -⟩ | ⟨e, -⟩
  · exact Or.inl e
  · exact Or.inr (Or.inl e)
  · exact Or.inr (Or.inr e)
/-- a shelf with a cut: its cell, its code as a number -/
theorem cut_at {hd so sz co : Nat → Int32} {cl : Nat → Int64} {g : Nat → Option Nat} {h : sHp} {S : Nat} (b : bRS hd so sz co cl g h S) (h2 : hd S = 2) : ∃ (pc C : Nat), 79 ≤ pc ∧ g S = some pc ∧ h[pc]? = some (.inr (bKl7 (C / 1000), cutFs (Int32.ofNat S) (co S))) ∧ C < 7000 ∧ (co S).toInt = C := by
  obtain ⟨ot, z, el, -, -, b3⟩ := b
  rcases b3 with ⟨e, -⟩ | ⟨e, -⟩ | ⟨-, -, pc, x3, x4, x5, x6, x7⟩
  · rw [h2] at e; exact absurd e (by decide)
  · rw [h2] at e; exact absurd e (by decide)
  · refine ⟨pc, (co S).toInt.toNat, x3, x4, ?_, by omega, by omega⟩
    have e : bKi (co S) = bKl7 ((co S).toInt.toNat / 1000) := by
      unfold bKi bKl7
      rw [show ((co S).toInt / 1000).toNat = (co S).toInt.toNat / 1000 by omega]
    rw [← e]
    exact x5
theorem s_side11c {d : Nat} {h : sHp} {ik tf : Int32} {c : CF} {W H : Nat} {gg : Nat → Option Nat} {s x : Int32} {S pc C : Nat} {side : Int32} (hd : 6 ≤ d) (h0 : h[0]? = some (cO ik tf)) (F : FC h 5 c) (g : gdF c W H) (a3 : h[2]? = some (.inl (4, 8, .inr (.inr (.inr (.inr gg)))))) (hs : s.toInt = S) (hS : S < 8) (hg : gg S = some pc) (hc : C < 7000) (a : h[pc]? = some (.inr (bKl7 (C / 1000), cutFs (Int32.ofNat S) x))) (hx : x.toInt = C) (hno : sDo (d - 1) 162 [.ref 0, .int s] h (fun r h' => h' = h ∧ r = some (.int 0))) : sDo d 121 [.ref 0, .int s, .int side] h (fun r h' => h' = h ∧ r = some (.long (sdS W (W * H) C side.toInt))) := by
  refine sDo_of1 (nL := 3) (L := [some (.ref 0), some (.int s), some (.int side)]) (by omega) rfl rfl ?_
  refine g_aload_n (i := 0) rfl rfl ?_
  refine g_iload_n (i := 1) rfl rfl ?_
  refine g_virt1 (Qc := fun r h' => h' = h ∧ r = some (.int (0))) rfl (by decide) rfl h0 rfl (Nat.le_of_ble_eq_true rfl) (hno) (fun r h hq9 => ?_)
  obtain ⟨rfl, rfl⟩ := hq9
  refine g_if_ne 22 rfl rfl (fun hc => absurd hc (by decide)) (fun _ => ?_)
  refine g_aload_n (i := 0) rfl rfl ?_
  refine g_aload_n (i := 0) rfl rfl ?_
  refine g_getfield (v := .ref 2) rfl h0 (by decide) rfl ?_
  refine g_iload_n (i := 1) rfl rfl ?_
  have gS : va_rf (gg s.toNatClampNeg) = .ref pc := by rw [i_nat hs, hg]; rfl
  refine g_aaload rfl a3 (by decide) (i_in (by omega) (by omega)) ?_
  rw [gS]
  refine g_iload_n (i := 2) rfl rfl ?_
  have hsd := s_sideOf11 (d := d - 1) (side := side) (by omega) h0 rfl F g hc rfl a hx
  refine g_virt2 (Qc := fun r h' => h' = h ∧ r = some (.long (sdS W (W * H) C side.toInt))) rfl (by decide) rfl h0 rfl (Nat.le_of_ble_eq_true rfl) (hsd) (fun r h hq9 => ?_)
  obtain ⟨rfl, rfl⟩ := hq9
  refine g_goto 23 rfl rfl ?_
  refine g_lreturn rfl rfl ?_
  exact ⟨rfl, rfl⟩
theorem s_side11n {d : Nat} {h : sHp} {ik tf s side b : Int32} (hd : 2 ≤ d) (h0 : h[0]? = some (cO ik tf)) (hb : ¬ b = 0) (hno : sDo (d - 1) 162 [.ref 0, .int s] h (fun r h' => h' = h ∧ r = some (.int b))) : sDo d 121 [.ref 0, .int s, .int side] h (fun r h' => h' = h ∧ r = some (.long (Int64.ofNat 0))) := by
  refine sDo_of1 (nL := 3) (L := [some (.ref 0), some (.int s), some (.int side)]) (by omega) rfl rfl ?_
  refine g_aload_n (i := 0) rfl rfl ?_
  refine g_iload_n (i := 1) rfl rfl ?_
  refine g_virt1 (Qc := fun r h' => h' = h ∧ r = some (.int (b))) rfl (by decide) rfl h0 rfl (Nat.le_of_ble_eq_true rfl) (hno) (fun r h hq9 => ?_)
  obtain ⟨rfl, rfl⟩ := hq9
  refine g_if_ne 22 rfl rfl (fun _ => ?_) (fun hc => absurd hc (by exact hb))
  refine g_lconst (n := 0) rfl ?_
  show sGo none 121 _ 23 [some (.ref 0), some (.int s), some (.int side)] [.long (Int64.ofNat 0)] _ _
  refine g_lreturn rfl rfl ?_
  exact ⟨rfl, rfl⟩
theorem s_side12c {d : Nat} {h : sHp} {J hd co : Nat → Int32} {W H : Nat} {s side : Int32} {S C : Nat} (hd1 : 3 ≤ d) (hr : h[60]? = some (mO J)) (a4 : h[67]? = some (.inl (0, 8, .inl hd))) (g : gdM J W H) (a7 : h[70]? = some (.inl (0, 8, .inl co))) (hs : s.toInt = S) (hS : S < 8) (h2 : hd S = 2) (hC : (co S).toInt = C) (hc : C < 7000) : sDo d 188 [.ref 60, .int s, .int side] h (fun r h' => h' = h ∧ r = some (.long (sdS W (W * H) C side.toInt))) := by
  have e2 : (hd S).toInt = 2 := by rw [h2]; rfl
  have hn := gdM_n g
  refine sDo_of1 (nL := 3) (L := [some (.ref 60), some (.int s), some (.int side)]) (by omega) rfl rfl ?_
  refine g_aload_n (i := 0) rfl rfl ?_
  refine g_iload_n (i := 1) rfl rfl ?_
  refine g_virt1 (Qc := fun r h' => h' = h ∧ (((0 ≤ s.toInt ∧ s.toInt < 8) ∧ r = some (.int 1)) ∨ (¬ (0 ≤ s.toInt ∧ s.toInt < 8) ∧ r = some (.int 0)))) rfl (by decide) rfl hr rfl (Nat.le_of_ble_eq_true rfl) (s_sh12z (by omega)) (fun r h hq9 => ?_)
  obtain ⟨rfl, ⟨c_1, rfl⟩ | ⟨c_1, rfl⟩⟩ := hq9
  · skip
    refine g_if_eq 41 rfl rfl (fun hc => absurd hc (by decide)) (fun _ => ?_)
    refine g_aload_n (i := 0) rfl rfl ?_
    refine g_getfield (v := .ref 67) rfl hr (by decide) rfl ?_
    refine g_iload_n (i := 1) rfl rfl ?_
    refine g_iaload (n := 8) (f := hd) rfl a4 (i_in (by omega) (by omega)) ?_
    rw [i_nat hs]
    refine g_iconst (n := 2) rfl ?_
    have k_3 : (Int32.ofInt 2).toInt = 2 := rfl
    refine g_icmp_ne 41 rfl rfl (fun c_2 => ?_) (fun c_2 => ?_)
    · skip
      rw [i_eq, e2, k_3] at c_2
      refine g_lconst (n := 0) rfl ?_
      show sGo none 188 _ 42 [some (.ref 60), some (.int s), some (.int side)] [.long (Int64.ofNat 0)] _ _
      refine g_lreturn rfl rfl ?_
      exact ⟨rfl, congrArg (fun z => some (Value.long z)) (sdS_o hn.1 (by omega))⟩
    · skip
      rw [i_eq, e2, k_3] at c_2
      refine g_iload_n (i := 2) rfl rfl ?_
      have k_5 : (0 : Int32).toInt = 0 := rfl
      refine g_if_lt 41 rfl rfl (fun c_4 => ?_) (fun c_4 => ?_)
      · skip
        rw [i_lt, k_5] at c_4
        refine g_lconst (n := 0) rfl ?_
        show sGo none 188 _ 42 [some (.ref 60), some (.int s), some (.int side)] [.long (Int64.ofNat 0)] _ _
        refine g_lreturn rfl rfl ?_
        exact ⟨rfl, congrArg (fun z => some (Value.long z)) (sdS_o hn.1 (by omega))⟩
      · skip
        rw [i_lt, k_5] at c_4
        refine g_iload_n (i := 2) rfl rfl ?_
        refine g_iconst (n := 3) rfl ?_
        have k_7 : (Int32.ofInt 3).toInt = 3 := rfl
        refine g_icmp_ge 41 rfl rfl (fun c_6 => ?_) (fun c_6 => ?_)
        · skip
          rw [i_le, k_7] at c_6
          refine g_lconst (n := 0) rfl ?_
          show sGo none 188 _ 42 [some (.ref 60), some (.int s), some (.int side)] [.long (Int64.ofNat 0)] _ _
          refine g_lreturn rfl rfl ?_
          exact ⟨rfl, congrArg (fun z => some (Value.long z)) (sdS_o hn.1 (by omega))⟩
        · skip
          rw [i_le, k_7] at c_6
          refine g_aload_n (i := 0) rfl rfl ?_
          refine g_aload_n (i := 0) rfl rfl ?_
          refine g_getfield (v := .ref 70) rfl hr (by decide) rfl ?_
          refine g_iload_n (i := 1) rfl rfl ?_
          refine g_iaload (n := 8) (f := co) rfl a7 (i_in (by omega) (by omega)) ?_
          rw [i_nat hs]
          refine g_iload_n (i := 2) rfl rfl ?_
          refine g_virt2 (Qc := fun r h' => h' = h ∧ r = some (.long (sdS W (W * H) C side.toInt))) rfl (by decide) rfl hr rfl (Nat.le_of_ble_eq_true rfl) (s_sideOf12 (by omega) hr g hC hc) (fun r h hq9 => ?_)
          obtain ⟨rfl, rfl⟩ := hq9
          refine g_goto 42 rfl rfl ?_
          refine g_lreturn rfl rfl ?_
          exact ⟨rfl, rfl⟩
  · skip
    omega
theorem s_side12n {d : Nat} {h : sHp} {J hd : Nat → Int32} {s side : Int32} (hd1 : 3 ≤ d) (hr : h[60]? = some (mO J)) (a4 : h[67]? = some (.inl (0, 8, .inl hd))) (hn : ¬ ((0 ≤ s.toInt ∧ s.toInt < 8) ∧ hd s.toInt.toNat = 2)) : sDo d 188 [.ref 60, .int s, .int side] h (fun r h' => h' = h ∧ r = some (.long (Int64.ofNat 0))) := by
  refine sDo_of1 (nL := 3) (L := [some (.ref 60), some (.int s), some (.int side)]) (by omega) rfl rfl ?_
  refine g_aload_n (i := 0) rfl rfl ?_
  refine g_iload_n (i := 1) rfl rfl ?_
  refine g_virt1 (Qc := fun r h' => h' = h ∧ (((0 ≤ s.toInt ∧ s.toInt < 8) ∧ r = some (.int 1)) ∨ (¬ (0 ≤ s.toInt ∧ s.toInt < 8) ∧ r = some (.int 0)))) rfl (by decide) rfl hr rfl (Nat.le_of_ble_eq_true rfl) (s_sh12z (by omega)) (fun r h hq9 => ?_)
  obtain ⟨rfl, ⟨c_1, rfl⟩ | ⟨c_1, rfl⟩⟩ := hq9
  · skip
    obtain ⟨S, hs⟩ : ∃ S : Nat, s.toInt = S := ⟨s.toInt.toNat, by omega⟩
    have e2 : ¬ (hd S).toInt = 2 := fun z => hn ⟨c_1, by rw [show s.toInt.toNat = S by omega]; exact Int32.toInt_inj.mp (by rw [z]; rfl)⟩
    refine g_if_eq 41 rfl rfl (fun hc => absurd hc (by decide)) (fun _ => ?_)
    refine g_aload_n (i := 0) rfl rfl ?_
    refine g_getfield (v := .ref 67) rfl hr (by decide) rfl ?_
    refine g_iload_n (i := 1) rfl rfl ?_
    refine g_iaload (n := 8) (f := hd) rfl a4 (i_in (by omega) (by omega)) ?_
    rw [i_nat hs]
    refine g_iconst (n := 2) rfl ?_
    refine g_icmp_ne 41 rfl rfl (fun _ => ?_) (fun hc => absurd hc (by rw [i_eq]; exact e2))
    refine g_lconst (n := 0) rfl ?_
    show sGo none 188 _ 42 [some (.ref 60), some (.int s), some (.int side)] [.long (Int64.ofNat 0)] _ _
    refine g_lreturn rfl rfl ?_
    exact ⟨rfl, rfl⟩
  · skip
    refine g_if_eq 41 rfl rfl (fun _ => ?_) (fun hc => absurd hc (by decide))
    refine g_lconst (n := 0) rfl ?_
    show sGo none 188 _ 42 [some (.ref 60), some (.int s), some (.int side)] [.long (Int64.ofNat 0)] _ _
    refine g_lreturn rfl rfl ?_
    exact ⟨rfl, rfl⟩
theorem pr7_side (s : Int32) (side : Int32) : pairR bR7 121 188 [.int s, .int side] := pr_q (c1 := cn_X11_side_0) (c2 := cn_X12_side_0) ch_X11_side_0 ch_X12_side_0 (by decide +kernel) (by decide +kernel) (by decide +kernel) (by decide +kernel) rfl rfl (fun h hH => ⟨bt0 hH, vI0 s, vI0 side, trivial⟩) (fun h hH => ⟨bt60 hH, vI0 s, vI0 side, trivial⟩) (by decide +kernel) (by decide +kernel) (fun h hH hR => by
  obtain ⟨c, m, W, H, N, ik, tf, R, hd, so, sz, co, cl, f, gg, F, g, M, gM, h0, hR43, q4, bs, hN, c11, m6⟩ := un7 hH hR
  have q4' := q4
  obtain ⟨a1, a2, a3, a4, a5, a6, a7, a8⟩ := q4'
  by_cases hS : 0 ≤ s.toInt ∧ s.toInt < 8
  · obtain ⟨S, hs⟩ : ∃ S : Nat, s.toInt = S := ⟨s.toInt.toNat, by omega⟩
    have hno := s_noCutIn (d := 9) (by omega) h0 q4 bs hs (by omega)
    by_cases h2 : hd S = 2
    · obtain ⟨pc, C, -, hg, a, hc, hx⟩ := cut_at (bs S (by omega)) h2
      unfold ncS at hno
      rw [if_pos h2] at hno
      refine ⟨_, sDo_mono (s_side11c (d := 10) (side := side) (by omega) h0 F g a3 hs (by omega) hg hc a hx hno) (fun r h' q => ⟨q.2, by rw [q.1]; exact vE_rfl⟩), fun h1 hH1 E => ?_⟩
      exact sDo_mono (s_side12c (d := 10) (by omega) (vE_at E M.1 (by decide)) (vE_at E a4 (by decide)) gM (vE_at E a7 (by decide)) hs (by omega) h2 hx hc) (fun r h' q => q.2)
    · have hb : ¬ ncS hd S = 0 := fun z => by
        rcases hd_3 (bs S (by omega)) with e | e | e
        · unfold ncS at z; rw [e] at z; exact absurd z (by decide)
        · unfold ncS at z; rw [e] at z; exact absurd z (by decide)
        · exact h2 e
      refine ⟨_, sDo_mono (s_side11n (d := 10) (by omega) h0 hb hno) (fun r h' q => ⟨q.2, by rw [q.1]; exact vE_rfl⟩), fun h1 hH1 E => ?_⟩
      exact sDo_mono (s_side12n (d := 10) (by omega) (vE_at E M.1 (by decide)) (vE_at E a4 (by decide)) (fun z => h2 (by rw [show S = s.toInt.toNat by omega]; exact z.2))) (fun r h' q => q.2)
  · refine ⟨_, sDo_mono (s_side11n (d := 10) (by omega) h0 (show ¬ (-1 : Int32) = 0 by decide) (s_noCutOX (d := 7) hS)) (fun r h' q => ⟨q.2, by rw [q.1]; exact vE_rfl⟩), fun h1 hH1 E => ?_⟩
    exact sDo_mono (s_side12n (d := 10) (by omega) (vE_at E M.1 (by decide)) (vE_at E a4 (by decide)) (fun z => hS z.1)) (fun r h' q => q.2))
theorem low_st : ∀ n, n < 64 → (Int64.ofNat 1 <<< ((Int32.ofNat n).toInt64 &&& 63)) - Int64.ofNat 1 = stO (fun _ => true) n := by decide +kernel
theorem m1_st : lM1 = stO (fun _ => true) 64 := bt_ext (fun i hi => by rw [bt_m1, bt_stO _ _ (by decide), Bool.and_true])
theorem in_iff {x : Int64} {n : Nat} (hn : n ≤ 64) : x &&& (stO (fun _ => true) n ^^^ lM1) = Int64.ofNat 0 ↔ inN x n := by
  rw [bt_eq0]
  unfold inN
  refine forall_congr' (fun i => forall_congr' (fun hi => ?_))
  rw [bt_and, bt_not, bt_stO _ _ hn, decide_eq_true hi, Bool.and_true, Bool.true_and]
  cases bt x i
  · exact ⟨fun _ z => absurd z (by decide), fun _ => rfl⟩
  · rw [Bool.true_and, Bool.not_eq_false', decide_eq_true_eq]
    exact ⟨fun z _ => z, fun z => z rfl⟩
theorem s_hasAll {d : Nat} {h : sHp} {p : Nat} {c : CF} {W H : Nat} {x : Int64} (hd : 1 ≤ d) (F : FC h p c) (g : gdF c W H) : sDo d 24 [.ref p, .long x] h (fun r h' => h' = h ∧ (inN x (W * H) ∧ r = some (.int 1) ∨ ¬ inN x (W * H) ∧ r = some (.int 0))) := by
  have g2 := g.2.2.2.2.2.2.1
  have key := in_iff (x := x) (gdF_n g).1
  refine sDo_of1 (nL := 3) (L := [some (.ref p), some (.long x), none]) hd rfl rfl ?_
  refine g_lload_n (i := 1) rfl rfl ?_
  refine g_aload_n (i := 0) rfl rfl ?_
  refine g_getfield (v := .long (c.2.1 2)) rfl F.1 (by decide) rfl ?_
  refine g_ldc2_w (j := 18446744073709551615) rfl ?_
  refine g_lxor rfl ?_
  refine g_land rfl ?_
  refine g_lconst (n := 0) rfl ?_
  show sGo none 24 _ 11 [some (.ref p), some (.long x), none] [.long (Int64.ofNat 0), .long (x &&& ((c.2.1 2) ^^^ (Int64.ofNat 18446744073709551615)))] _ _
  refine g_lcmp rfl ?_
  refine g_if_ne 19 rfl rfl (fun c_1 => ?_) (fun c_1 => ?_)
  · skip
    rw [lc_eq] at c_1
    refine g_iconst (n := 0) rfl ?_
    refine g_ireturn (ty := .boolean) rfl rfl (by decide) ?_
    rw [g2] at c_1; exact ⟨rfl, Or.inr ⟨fun z => c_1 (key.mpr z), rfl⟩⟩
  · skip
    rw [lc_eq] at c_1
    refine g_iconst (n := 1) rfl ?_
    refine g_goto 20 rfl rfl ?_
    refine g_ireturn (ty := .boolean) rfl rfl (by decide) ?_
    rw [g2] at c_1; exact ⟨rfl, Or.inl ⟨key.mp c_1, rfl⟩⟩
theorem s_all12 {d : Nat} {h : sHp} {J : Nat → Int32} {W H : Nat} (hd : 1 ≤ d) (hr : h[60]? = some (mO J)) (g : gdM J W H) : sDo d 174 [.ref 60] h (fun r h' => h' = h ∧ r = some (.long (stO (fun _ => true) (W * H)))) := by
  have gd := g
  obtain ⟨gw, gh, w2, w8, h2, h8⟩ := gd
  have hn := gdM_n g
  have hw0 : (J 0).toInt = ((W : Nat) : Int) := by rw [gw]; exact ofN_toInt (by omega)
  have hw1 : (J 1).toInt = ((H : Nat) : Int) := by rw [gh]; exact ofN_toInt (by omega)
  have hwn : (J 0 * J 1).toInt = ((W * H : Nat) : Int) := n_mul hw0 hw1 (by omega)
  have e64 : (Int8.ofInt 64).toInt32.toInt = 64 := rfl
  have eWH : J 0 * J 1 = Int32.ofNat (W * H) := Int32.toInt_inj.mp (by rw [hwn, ofN_toInt (by omega)])
  refine sDo_of1 (nL := 1) (L := [some (.ref 60)]) (by omega) rfl rfl ?_
  refine g_aload_n (i := 0) rfl rfl ?_
  refine g_getfield (v := .int (J 0)) rfl hr (by decide) rfl ?_
  refine g_aload_n (i := 0) rfl rfl ?_
  refine g_getfield (v := .int (J 1)) rfl hr (by decide) rfl ?_
  refine g_imul rfl ?_
  refine g_bipush (n := 64) rfl ?_
  have k_2 : ((Int8.ofInt 64).toInt32).toInt = 64 := rfl
  refine g_icmp_ne 20 rfl rfl (fun c_1 => ?_) (fun c_1 => ?_)
  · skip
    rw [i_eq, hwn, k_2] at c_1
    refine g_lconst (n := 1) rfl ?_
    show sGo none 174 _ 21 [some (.ref 60)] [.long (Int64.ofNat 1)] _ _
    refine g_aload_n (i := 0) rfl rfl ?_
    refine g_getfield (v := .int (J 0)) rfl hr (by decide) rfl ?_
    refine g_aload_n (i := 0) rfl rfl ?_
    refine g_getfield (v := .int (J 1)) rfl hr (by decide) rfl ?_
    refine g_imul rfl ?_
    refine g_lshl rfl ?_
    refine g_lconst (n := 1) rfl ?_
    show sGo none 174 _ 32 [some (.ref 60)] [.long (Int64.ofNat 1), .long ((Int64.ofNat 1) <<< (((J 0) * (J 1)).toInt64 &&& 63))] _ _
    refine g_lsub rfl ?_
    refine g_lreturn rfl rfl ?_
    exact ⟨rfl, by rw [eWH]; exact congrArg (fun z => some (Value.long z)) (low_st _ (by omega))⟩
  · skip
    rw [i_eq, hwn, k_2] at c_1
    refine g_ldc2_w (j := 18446744073709551615) rfl ?_
    refine g_goto 33 rfl rfl ?_
    refine g_lreturn rfl rfl ?_
    exact ⟨rfl, by rw [show W * H = 64 by omega]; exact congrArg (fun z => some (Value.long z)) m1_st⟩
theorem s_isSet12 {d : Nat} {h : sHp} {J : Nat → Int32} {W H : Nat} {x : Int64} (hd : 2 ≤ d) (hr : h[60]? = some (mO J)) (g : gdM J W H) : sDo d 175 [.ref 60, .long x] h (fun r h' => h' = h ∧ (inN x (W * H) ∧ r = some (.int 1) ∨ ¬ inN x (W * H) ∧ r = some (.int 0))) := by
  have key := in_iff (x := x) (gdM_n g).1
  refine sDo_of1 (nL := 3) (L := [some (.ref 60), some (.long x), none]) (by omega) rfl rfl ?_
  refine g_lload_n (i := 1) rfl rfl ?_
  refine g_aload_n (i := 0) rfl rfl ?_
  refine g_virt0 (Qc := fun r h' => h' = h ∧ r = some (.long (stO (fun _ => true) (W * H)))) rfl (by decide) rfl hr rfl (Nat.le_of_ble_eq_true rfl) (s_all12 (by omega) hr g) (fun r h hq9 => ?_)
  obtain ⟨rfl, rfl⟩ := hq9
  refine g_ldc2_w (j := 18446744073709551615) rfl ?_
  refine g_lxor rfl ?_
  refine g_land rfl ?_
  refine g_lconst (n := 0) rfl ?_
  show sGo none 175 _ 11 [some (.ref 60), some (.long x), none] [.long (Int64.ofNat 0), .long (x &&& ((stO (fun _ => true) (W * H)) ^^^ (Int64.ofNat 18446744073709551615)))] _ _
  refine g_lcmp rfl ?_
  refine g_if_ne 19 rfl rfl (fun c_1 => ?_) (fun c_1 => ?_)
  · skip
    rw [lc_eq] at c_1
    refine g_iconst (n := 0) rfl ?_
    refine g_ireturn (ty := .boolean) rfl rfl (by decide) ?_
    exact ⟨rfl, Or.inr ⟨fun z => c_1 (key.mpr z), rfl⟩⟩
  · skip
    rw [lc_eq] at c_1
    refine g_iconst (n := 1) rfl ?_
    refine g_goto 20 rfl rfl ?_
    refine g_ireturn (ty := .boolean) rfl rfl (by decide) ?_
    exact ⟨rfl, Or.inl ⟨key.mp c_1, rfl⟩⟩
theorem s_parts11 {d : Nat} {h : sHp} {ik tf : Int32} {c : CF} {W H : Nat} {x : Int64} (hd : 4 ≤ d) (h0 : h[0]? = some (cO ik tf)) (F : FC h 5 c) (g : gdF c W H) : sDo d 140 [.ref 0, .long x] h (fun r h' => h' = h ∧ (inN x (W * H) ∧ r = some (.int (Int32.ofNat (ptS W (W * H) 64 x))) ∨ ¬ inN x (W * H) ∧ r = some (.int 0))) := by
  refine sDo_of1 (nL := 3) (L := [some (.ref 0), some (.long x), none]) (by omega) rfl rfl ?_
  refine g_aload_n (i := 0) rfl rfl ?_
  refine g_getfield (v := .ref 5) rfl h0 (by decide) rfl ?_
  refine g_lload_n (i := 1) rfl rfl ?_
  refine g_virt1 (Qc := fun r h' => h' = h ∧ (((inN x (W * H)) ∧ r = some (.int 1)) ∨ (¬ (inN x (W * H)) ∧ r = some (.int 0)))) rfl (by decide) rfl F.1 rfl (Nat.le_of_ble_eq_true rfl) (s_hasAll (by omega) F g) (fun r h hq9 => ?_)
  obtain ⟨rfl, ⟨c_1, rfl⟩ | ⟨c_1, rfl⟩⟩ := hq9
  · skip
    refine g_if_eq 22 rfl rfl (fun hc => absurd hc (by decide)) (fun _ => ?_)
    refine g_aload_n (i := 0) rfl rfl ?_
    refine g_getfield (v := .ref 5) rfl h0 (by decide) rfl ?_
    refine g_lload_n (i := 1) rfl rfl ?_
    refine g_virt1 (Qc := fun r h' => h' = h ∧ r = some (.int (Int32.ofNat (ptS W (W * H) 64 x)))) rfl (by decide) rfl F.1 rfl (Nat.le_of_ble_eq_true rfl) (s_pieces (by omega) F g c_1) (fun r h hq9 => ?_)
    obtain ⟨rfl, rfl⟩ := hq9
    refine g_goto 23 rfl rfl ?_
    refine g_ireturn (ty := .int) rfl rfl rfl ?_
    exact ⟨rfl, Or.inl ⟨c_1, rfl⟩⟩
  · skip
    refine g_if_eq 22 rfl rfl (fun _ => ?_) (fun hc => absurd hc (by decide))
    refine g_iconst (n := 0) rfl ?_
    refine g_ireturn (ty := .int) rfl rfl rfl ?_
    exact ⟨rfl, Or.inr ⟨c_1, rfl⟩⟩
theorem s_parts12 {d : Nat} {h : sHp} {J : Nat → Int32} {W H : Nat} {x : Int64} (hd : 5 ≤ d) (hr : h[60]? = some (mO J)) (g : gdM J W H) : sDo d 225 [.ref 60, .long x] h (fun r h' => h' = h ∧ (inN x (W * H) ∧ r = some (.int (Int32.ofNat (ptS W (W * H) 64 x))) ∨ ¬ inN x (W * H) ∧ r = some (.int 0))) := by
  refine sDo_of1 (nL := 3) (L := [some (.ref 60), some (.long x), none]) (by omega) rfl rfl ?_
  refine g_aload_n (i := 0) rfl rfl ?_
  refine g_lload_n (i := 1) rfl rfl ?_
  refine g_virt1 (Qc := fun r h' => h' = h ∧ (((inN x (W * H)) ∧ r = some (.int 1)) ∨ (¬ (inN x (W * H)) ∧ r = some (.int 0)))) rfl (by decide) rfl hr rfl (Nat.le_of_ble_eq_true rfl) (s_isSet12 (by omega) hr g) (fun r h hq9 => ?_)
  obtain ⟨rfl, ⟨c_1, rfl⟩ | ⟨c_1, rfl⟩⟩ := hq9
  · skip
    refine g_if_eq 16 rfl rfl (fun hc => absurd hc (by decide)) (fun _ => ?_)
    refine g_aload_n (i := 0) rfl rfl ?_
    refine g_lload_n (i := 1) rfl rfl ?_
    refine g_virt1 (Qc := fun r h' => h' = h ∧ r = some (.int (Int32.ofNat (ptS W (W * H) 64 x)))) rfl (by decide) rfl hr rfl (Nat.le_of_ble_eq_true rfl) (s_partsOf (by omega) hr g) (fun r h hq9 => ?_)
    obtain ⟨rfl, rfl⟩ := hq9
    refine g_goto 17 rfl rfl ?_
    refine g_ireturn (ty := .int) rfl rfl rfl ?_
    exact ⟨rfl, Or.inl ⟨c_1, rfl⟩⟩
  · skip
    refine g_if_eq 16 rfl rfl (fun _ => ?_) (fun hc => absurd hc (by decide))
    refine g_iconst (n := 0) rfl ?_
    refine g_ireturn (ty := .int) rfl rfl rfl ?_
    exact ⟨rfl, Or.inr ⟨c_1, rfl⟩⟩
theorem pr7_parts (x : Int64) : pairR bR7 140 225 [.long x] := pr_q (c1 := cn_X11_parts_0) (c2 := cn_X12_parts_0) ch_X11_parts_0 ch_X12_parts_0 (by decide +kernel) (by decide +kernel) (by decide +kernel) (by decide +kernel) rfl rfl (fun h hH => ⟨bt0 hH, vL0 x, trivial⟩) (fun h hH => ⟨bt60 hH, vL0 x, trivial⟩) (by decide +kernel) (by decide +kernel) (fun h hH hR => by
  obtain ⟨c, m, W, H, N, ik, tf, R, hd, so, sz, co, cl, f, gg, F, g, M, gM, h0, hR43, q4, bs, hN, c11, m6⟩ := un7 hH hR
  have q4' := q4
  obtain ⟨a1, a2, a3, a4, a5, a6, a7, a8⟩ := q4'
  by_cases hx : inN x (W * H)
  · refine ⟨_, sDo_mono (s_parts11 (d := 10) (by omega) h0 F g) (fun r h' q => ⟨(q.2.resolve_right (fun z => z.1 hx)).2, by rw [q.1]; exact vE_rfl⟩), fun h1 hH1 E => ?_⟩
    exact sDo_mono (s_parts12 (d := 10) (by omega) (vE_at E M.1 (by decide)) gM) (fun r h' q => (q.2.resolve_right (fun z => z.1 hx)).2)
  · refine ⟨_, sDo_mono (s_parts11 (d := 10) (by omega) h0 F g) (fun r h' q => ⟨(q.2.resolve_left (fun z => hx z.1)).2, by rw [q.1]; exact vE_rfl⟩), fun h1 hH1 E => ?_⟩
    exact sDo_mono (s_parts12 (d := 10) (by omega) (vE_at E M.1 (by decide)) gM) (fun r h' q => (q.2.resolve_left (fun z => hx z.1)).2))
end
section
/-! ===== what a row tells; fits ===== -/
def toS (N : Nat) (T : Nat → Int32) (sz : Nat) (v : Int32) : Int64 := stO (fun q => decide (q < sz) && decide (T q = v)) N
theorem toS_stop {T : Nat → Int32} {sz k N : Nat} {v : Int32} (hN : N ≤ 64) (hk : k ≤ N) (h : sz ≤ k ∨ N ≤ k) : stO (fun q => decide (q < sz) && decide (T q = v)) k = toS N T sz v := bt_ext (fun i hi => by
  unfold toS
  rw [bt_stO _ _ (by omega), bt_stO _ _ hN]
  by_cases e : i < k
  · rw [decide_eq_true e, decide_eq_true (show i < N by omega)]
  · rw [decide_eq_false e, Bool.false_and]
    by_cases e2 : i < N
    · rw [decide_eq_false (show ¬ i < sz by omega), Bool.false_and, Bool.and_false]
    · rw [decide_eq_false e2, Bool.false_and])
theorem s_only11 {d : Nat} {h : sHp} {p : Nat} {c : CF} {W H k : Nat} (hd : 2 ≤ d) (F : FC h p c) (g : gdF c W H) (hk : k < W * H) : sDo d 25 [.ref p, .int (Int32.ofNat k)] h (fun r h' => h' = h ∧ r = some (.long (Int64.ofNat 1 <<< ((Int32.ofNat k).toInt64 &&& 63)))) := by
  have hn := gdF_n g
  have ek := ofN_toInt (n := k) (by omega)
  refine sDo_of1 (nL := 2) (L := [some (.ref p), some (.int (Int32.ofNat k))]) (by omega) rfl rfl ?_
  refine g_aload_n (i := 0) rfl rfl ?_
  refine g_iload_n (i := 1) rfl rfl ?_
  refine g_virt1 (Qc := fun r h' => h' = h ∧ (((0 ≤ (Int32.ofNat k).toInt ∧ (Int32.ofNat k).toInt < ((W * H : Nat) : Int)) ∧ r = some (.int 1)) ∨ (¬ (0 ≤ (Int32.ofNat k).toInt ∧ (Int32.ofNat k).toInt < ((W * H : Nat) : Int)) ∧ r = some (.int 0)))) rfl (by decide) rfl F.1 rfl (Nat.le_of_ble_eq_true rfl) (s_isSq11 (by omega) F g) (fun r h hq9 => ?_)
  obtain ⟨rfl, ⟨c_1, rfl⟩ | ⟨c_1, rfl⟩⟩ := hq9
  · skip
    refine g_if_eq 14 rfl rfl (fun hc => absurd hc (by decide)) (fun _ => ?_)
    refine g_lconst (n := 1) rfl ?_
    show sGo none 25 _ 9 [some (.ref p), some (.int (Int32.ofNat k))] [.long (Int64.ofNat 1)] _ _
    refine g_iload_n (i := 1) rfl rfl ?_
    refine g_lshl rfl ?_
    refine g_goto 15 rfl rfl ?_
    refine g_lreturn rfl rfl ?_
    exact ⟨rfl, rfl⟩
  · skip
    omega
theorem s_toldBy_go {d : Nat} {h : sHp} {p : Nat} {c : CF} {W H : Nat} {tp ep n : Nat} {ot : Int32} {el : Nat → Int64} {v : Int32} (hd : 3 ≤ d) (F : FC h p c) (g : gdF c W H) (ht : h[tp]? = some (.inr (7, [.int ot, .int (Int32.ofNat n), .ref ep]))) (he : h[ep]? = some (.inl (1, 100, .inr (.inl el)))) (hn1 : n ≤ 100) : ∀ (f k : Nat), k + f = W * H → k ≤ W * H → sGo none 54 d 5 [some (.ref p), some (.ref tp), some (.int v), some (.long (stO (fun q => decide (q < n) && decide (tx el n q = v)) k)), none, some (.int (Int32.ofNat k))] [] h (fun r h' => h' = h ∧ r = some (.long (toS (W * H) (tx el n) n v))) := by
  have gd := g
  obtain ⟨gw, gh, w2, w8, h2, h8, g2, g3, g4, g5, g6⟩ := gd
  have hn := gdF_n g
  have hw0 : (c.1 0).toInt = ((W : Nat) : Int) := by rw [gw]; exact ofN_toInt (by omega)
  have hw1 : (c.1 1).toInt = ((H : Nat) : Int) := by rw [gh]; exact ofN_toInt (by omega)
  have hwn : (c.1 0 * c.1 1).toInt = ((W * H : Nat) : Int) := n_mul hw0 hw1 (by omega)
  have en := ofN_toInt (n := n) (by omega)
  intro f
  induction f with
  | zero =>
    intro k hk hk2
    have ek := ofN_toInt (n := k) (by omega)
    refine g_iload (i := 5) rfl rfl ?_
    refine g_aload_n (i := 0) rfl rfl ?_
    refine g_virt0 (Qc := fun r h' => h' = h ∧ r = some (.int (c.1 0 * c.1 1))) rfl (by decide) rfl F.1 rfl (Nat.le_of_ble_eq_true rfl) (sDo_up (d := 1) (by omega) (s_squares (d := 0) F)) (fun r h hq9 => ?_)
    obtain ⟨rfl, rfl⟩ := hq9
    refine g_icmp_ge 48 rfl rfl (fun _ => ?_) (fun hc => absurd hc (by rw [i_le, hwn, ek]; omega))
    refine g_lload_n (i := 3) rfl rfl ?_
    refine g_lreturn rfl rfl ?_
    exact ⟨rfl, congrArg (fun z => some (Value.long z)) (toS_stop hn.1 hk2 (by omega))⟩
  | succ f ih =>
    intro k hk hk2
    have ek := ofN_toInt (n := k) (by omega)
    refine g_iload (i := 5) rfl rfl ?_
    refine g_aload_n (i := 0) rfl rfl ?_
    refine g_virt0 (Qc := fun r h' => h' = h ∧ r = some (.int (c.1 0 * c.1 1))) rfl (by decide) rfl F.1 rfl (Nat.le_of_ble_eq_true rfl) (sDo_up (d := 1) (by omega) (s_squares (d := 0) F)) (fun r h hq9 => ?_)
    obtain ⟨rfl, rfl⟩ := hq9
    refine g_icmp_ge 48 rfl rfl (fun hc => absurd hc (by rw [i_le, hwn, ek]; omega)) (fun _ => ?_)
    refine g_iload (i := 5) rfl rfl ?_
    refine g_aload_n (i := 1) rfl rfl ?_
    refine g_getfield (v := .int (Int32.ofNat n)) rfl ht (by decide) rfl ?_
    refine g_icmp_ge 48 rfl rfl (fun c_1 => ?_) (fun c_1 => ?_)
    · skip
      rw [i_le, ek, en] at c_1
      refine g_lload_n (i := 3) rfl rfl ?_
      refine g_lreturn rfl rfl ?_
      exact ⟨rfl, congrArg (fun z => some (Value.long z)) (toS_stop hn.1 hk2 (by omega))⟩
    · skip
      rw [i_le, ek, en] at c_1
      refine g_aload_n (i := 1) rfl rfl ?_
      refine g_iload (i := 5) rfl rfl ?_
      refine g_virt1 (Qc := fun r h' => h' = h ∧ r = some (.int (tx el n k))) rfl (by decide) rfl ht rfl (Nat.le_of_ble_eq_true rfl) (sDo_up (d := 2) (by omega) (s_intR (d := 0) ht he hn1 ek)) (fun r h hq9 => ?_)
      obtain ⟨rfl, rfl⟩ := hq9
      refine g_iload_n (i := 2) rfl rfl ?_
      refine g_icmp_ne 42 rfl rfl (fun c_2 => ?_) (fun c_2 => ?_)
      · skip
        rw [i_eq] at c_2
        refine g_iinc (i := 5) (L1 := [some (.ref p), some (.ref tp), some (.int v), some (.long (stO (fun q => decide (q < n) && decide (tx el n q = v)) k)), none, some (.int ((Int32.ofNat k) + Int32.ofInt 1))]) rfl rfl rfl ?_
        rw [ofN_add (by omega)]
        refine g_goto 5 rfl rfl ?_
        exact (show stO (fun q => decide (q < n) && decide (tx el n q = v)) (k + 1) = _ from if_neg (show ¬ (decide (k < n) && decide (tx el n k = v)) = true by rw [decide_eq_false (fun z => c_2 (i_eq.mp z)), Bool.and_false]; decide)) ▸ ih (k + 1) (by omega) (by omega)
      · skip
        rw [i_eq] at c_2
        refine g_lload_n (i := 3) rfl rfl ?_
        refine g_aload_n (i := 0) rfl rfl ?_
        refine g_iload (i := 5) rfl rfl ?_
        refine g_virt1 (Qc := fun r h' => h' = h ∧ r = some (.long (Int64.ofNat 1 <<< ((Int32.ofNat k).toInt64 &&& 63)))) rfl (by decide) rfl F.1 rfl (Nat.le_of_ble_eq_true rfl) (s_only11 (by omega) F g (by omega)) (fun r h hq9 => ?_)
        obtain ⟨rfl, rfl⟩ := hq9
        refine g_lor rfl ?_
        refine g_lstore_n (i := 3) (L1 := [some (.ref p), some (.ref tp), some (.int v), some (.long ((stO (fun q => decide (q < n) && decide (tx el n q = v)) k) ||| (Int64.ofNat 1 <<< ((Int32.ofNat k).toInt64 &&& 63)))), none, some (.int (Int32.ofNat k))]) rfl (Nat.le_of_ble_eq_true rfl) rfl ?_
        refine g_iinc (i := 5) (L1 := [some (.ref p), some (.ref tp), some (.int v), some (.long ((stO (fun q => decide (q < n) && decide (tx el n q = v)) k) ||| (Int64.ofNat 1 <<< ((Int32.ofNat k).toInt64 &&& 63)))), none, some (.int ((Int32.ofNat k) + Int32.ofInt 1))]) rfl rfl rfl ?_
        rw [ofN_add (by omega)]
        refine g_goto 5 rfl rfl ?_
        exact (show stO (fun q => decide (q < n) && decide (tx el n q = v)) (k + 1) = _ from if_pos (show (decide (k < n) && decide (tx el n k = v)) = true by rw [decide_eq_true (show k < n by omega), decide_eq_true (i_eq.mpr c_2)]; rfl)) ▸ ih (k + 1) (by omega) (by omega)
theorem s_toldBy {d : Nat} {h : sHp} {p : Nat} {c : CF} {W H : Nat} {tp ep n : Nat} {ot : Int32} {el : Nat → Int64} {v : Int32} (hd : 4 ≤ d) (F : FC h p c) (g : gdF c W H) (ht : h[tp]? = some (.inr (7, [.int ot, .int (Int32.ofNat n), .ref ep]))) (he : h[ep]? = some (.inl (1, 100, .inr (.inl el)))) (hn1 : n ≤ 100) : sDo d 54 [.ref p, .ref tp, .int v] h (fun r h' => h' = h ∧ r = some (.long (toS (W * H) (tx el n) n v))) := by
  have key := s_toldBy_go (d := d - 1) (v := v) (by omega) F g ht he hn1 (W * H) 0 (by omega) (by omega)
  refine sDo_of1 (nL := 6) (L := [some (.ref p), some (.ref tp), some (.int v), none, none, none]) (by omega) rfl rfl ?_
  refine g_lconst (n := 0) rfl ?_
  show sGo none 54 _ 1 [some (.ref p), some (.ref tp), some (.int v), none, none, none] [.long (Int64.ofNat 0)] _ _
  refine g_lstore_n (i := 3) (L1 := [some (.ref p), some (.ref tp), some (.int v), some (.long (Int64.ofNat 0)), none, none]) rfl (Nat.le_of_ble_eq_true rfl) rfl ?_
  refine g_iconst (n := 0) rfl ?_
  refine g_istore (i := 5) (L1 := [some (.ref p), some (.ref tp), some (.int v), some (.long (Int64.ofNat 0)), none, some (.int (Int32.ofInt 0))]) rfl (Nat.le_of_ble_eq_true rfl) rfl ?_
  exact key
/-- a cut fits what a row tells -/
def fitP (W N C : Nat) (T : Nat → Int32) (sz : Nat) : Prop := ∀ q, q < N → q < sz → (T q = 0 → sdC W C q = 0) ∧ (T q = 1 → sdC W C q = 1)
theorem fit_iff {W N C sz : Nat} {T : Nat → Int32} (hN : N ≤ 64) : (toS N T sz 0 &&& (sdS W N C 0 ^^^ lM1)) ||| (toS N T sz 1 &&& (sdS W N C 1 ^^^ lM1)) = Int64.ofNat 0 ↔ fitP W N C T sz := by
  rw [bt_eq0]
  unfold fitP toS sdS
  constructor
  · intro h q h1 h2
    have k := h q (by omega)
    rw [bt_or, bt_and, bt_and, bt_not, bt_not, bt_stO _ _ hN, bt_stO _ _ hN, bt_stO _ _ hN, bt_stO _ _ hN, decide_eq_true h1, decide_eq_true h2, decide_eq_true (show q < 64 by omega), Bool.true_and, Bool.true_and, Bool.true_and, Bool.true_and, Bool.true_and, Bool.true_and, Bool.true_and, Bool.true_and, Bool.or_eq_false_iff] at k
    refine ⟨fun z => ?_, fun z => ?_⟩
    · have k1 := k.1
      rw [decide_eq_true z, Bool.true_and, Bool.not_eq_false', decide_eq_true_eq] at k1
      omega
    · have k1 := k.2
      rw [decide_eq_true z, Bool.true_and, Bool.not_eq_false', decide_eq_true_eq] at k1
      omega
  · intro h q hq
    rw [bt_or, bt_and, bt_and, bt_not, bt_not, bt_stO _ _ hN, bt_stO _ _ hN, bt_stO _ _ hN, bt_stO _ _ hN, decide_eq_true hq, Bool.true_and, Bool.true_and]
    by_cases h1 : q < N
    · by_cases h2 : q < sz
      · have k := h q h1 h2
        rw [decide_eq_true h1, decide_eq_true h2, Bool.true_and, Bool.true_and, Bool.true_and, Bool.true_and, Bool.true_and, Bool.true_and, Bool.or_eq_false_iff]
        refine ⟨?_, ?_⟩
        · by_cases z : T q = 0
          · rw [decide_eq_true (show ((sdC W C q : Nat) : Int) = 0 by rw [k.1 z]; rfl), Bool.not_true, Bool.and_false]
          · rw [decide_eq_false z, Bool.false_and]
        · by_cases z : T q = 1
          · rw [decide_eq_true (show ((sdC W C q : Nat) : Int) = 1 by rw [k.2 z]; rfl), Bool.not_true, Bool.and_false]
          · rw [decide_eq_false z, Bool.false_and]
      · rw [decide_eq_false h2]; simp
    · rw [decide_eq_false h1]; simp
theorem s_isFirst2 {d : Nat} {h : sHp} {J : Nat → Int32} {W H : Nat} {x : Int32} {C q : Nat} (hd : 1 ≤ d) (hr : h[60]? = some (mO J)) (g : gdM J W H) (hx : x.toInt = C) (hc : C < 7000) (hq : q < W * H) : sDo d 186 [.ref 60, .int x, .int (Int32.ofNat q)] h (fun r h' => h' = h ∧ (isF W C q = true ∧ r = some (.int 1) ∨ ¬ isF W C q = true ∧ r = some (.int 0))) := sDo_mono (s_isFirst hd hr g hx hc hq) (fun r h' q => ⟨q.1, by
  rw [q.2]
  unfold zI
  split
  · rename_i z; exact Or.inl ⟨z, rfl⟩
  · rename_i z; exact Or.inr ⟨z, rfl⟩⟩)
theorem s_intAt12 {d : Nat} {h : sHp} {J : Nat → Int32} {cl : Nat → Int64} {S k n : Nat} {s : Int32} {T : Nat → Int32} (hd : 1 ≤ d) (hr : h[60]? = some (mO J)) (a8 : h[71]? = some (.inl (1, 800, .inr (.inl cl)))) (hs : s.toInt = S) (RT1 : RT cl S n T) (hk : k < n) : sDo d 185 [.ref 60, .int s, .int (Int32.ofNat k)] h (fun r h' => h' = h ∧ r = some (.int (T k))) := by
  obtain ⟨R1, R2, R3, R4⟩ := RT1
  have ek := ofN_toInt (n := k) (by omega)
  have e1 : ((Int8.ofInt 100).toInt32 * s).toInt = ((100 * S : Nat) : Int) := n_mul (show (Int8.ofInt 100).toInt32.toInt = ((100 : Nat) : Int) from rfl) hs (by omega)
  refine sDo_of1 (nL := 3) (L := [some (.ref 60), some (.int s), some (.int (Int32.ofNat k))]) hd rfl rfl ?_
  refine g_aload_n (i := 0) rfl rfl ?_
  refine g_getfield (v := .ref 71) rfl hr (by decide) rfl ?_
  refine g_bipush (n := 100) rfl ?_
  refine g_iload_n (i := 1) rfl rfl ?_
  have k_1 : ((Int8.ofInt 100).toInt32).toInt = 100 := rfl
  refine g_imul rfl ?_
  refine g_iload_n (i := 2) rfl rfl ?_
  refine g_iadd rfl ?_
  have t_2 : (((Int8.ofInt 100).toInt32 * s) + (Int32.ofNat k)).toInt = ((100 * S + k : Nat) : Int) := by rw [i_add (by rw [e1, ek]; omega) (by rw [e1, ek]; omega), e1, ek]; omega
  refine g_laload (n := 800) (f := cl) rfl a8 (i_in (by omega) (by omega)) ?_
  rw [i_nat t_2]
  refine g_l2i rfl ?_
  refine g_ireturn (ty := .int) rfl rfl rfl ?_
  exact ⟨rfl, congrArg (fun z => some (Value.int z)) (R3 k hk)⟩
theorem s_isFit_go {d : Nat} {h : sHp} {J : Nat → Int32} {W H : Nat} {x s : Int32} {C S n : Nat} {sz : Nat → Int32} {cl : Nat → Int64} {T : Nat → Int32} (hd : 2 ≤ d) (hr : h[60]? = some (mO J)) (g : gdM J W H) (hx : x.toInt = C) (hc : C < 7000) (hs : s.toInt = S) (hS : S < 8) (a6 : h[69]? = some (.inl (0, 8, .inl sz))) (a8 : h[71]? = some (.inl (1, 800, .inr (.inl cl)))) (hz : sz S = Int32.ofNat n) (RT1 : RT cl S n T) : ∀ (f k : Nat) (o4 : Option Value), k + f = W * H → (∀ q, q < k → q < n → (T q = 0 → sdC W C q = 0) ∧ (T q = 1 → sdC W C q = 1)) → sGo none 243 d 2 [some (.ref 60), some (.int x), some (.int s), some (.int (Int32.ofNat k)), o4] [] h (fun r h' => h' = h ∧ (fitP W (W * H) C T n ∧ r = some (.int 1) ∨ ¬ fitP W (W * H) C T n ∧ r = some (.int 0))) := by
  have gd := g
  obtain ⟨gw, gh, w2, w8, h2, h8⟩ := gd
  have hn := gdM_n g
  have hw0 : (J 0).toInt = ((W : Nat) : Int) := by rw [gw]; exact ofN_toInt (by omega)
  have hw1 : (J 1).toInt = ((H : Nat) : Int) := by rw [gh]; exact ofN_toInt (by omega)
  have hwn : (J 0 * J 1).toInt = ((W * H : Nat) : Int) := n_mul hw0 hw1 (by omega)
  have hn1 := RT1.2.1
  have esz : (sz S).toInt = ((n : Nat) : Int) := by rw [hz]; exact ofN_toInt (by omega)
  intro f
  induction f with
  | zero =>
    intro k o4 hk hq
    have ek := ofN_toInt (n := k) (by omega)
    refine g_iload_n (i := 3) rfl rfl ?_
    refine g_aload_n (i := 0) rfl rfl ?_
    refine g_getfield (v := .int (J 0)) rfl hr (by decide) rfl ?_
    refine g_aload_n (i := 0) rfl rfl ?_
    refine g_getfield (v := .int (J 1)) rfl hr (by decide) rfl ?_
    refine g_imul rfl ?_
    refine g_icmp_ge 99 rfl rfl (fun _ => ?_) (fun hc => absurd hc (by rw [i_le, hwn, ek]; omega))
    refine g_iconst (n := 1) rfl ?_
    refine g_ireturn (ty := .boolean) rfl rfl (by decide) ?_
    exact ⟨rfl, Or.inl ⟨fun q h1 h2 => hq q (by omega) h2, rfl⟩⟩
  | succ f ih =>
    intro k o4 hk hq
    have ek := ofN_toInt (n := k) (by omega)
    have a0 : (x / (Int16.ofInt 1000).toInt32).toInt = ((C / 1000 : Nat) : Int) := n_div hx (show (Int16.ofInt 1000).toInt32.toInt = ((1000 : Nat) : Int) from rfl) (by decide)
    have a4 := n_rem ek hw0 (by omega)
    have nxt : ∀ o4, (k < n → (T k = 0 → sdC W C k = 0) ∧ (T k = 1 → sdC W C k = 1)) → sGo none 243 d 2 [some (.ref 60), some (.int x), some (.int s), some (.int (Int32.ofNat (k + 1))), o4] [] h (fun r h' => h' = h ∧ (fitP W (W * H) C T n ∧ r = some (.int 1) ∨ ¬ fitP W (W * H) C T n ∧ r = some (.int 0))) := fun o4 hk2 => ih (k + 1) o4 (by omega) (fun q h1 h2 => by
      by_cases e : q = k
      · subst e; exact hk2 h2
      · exact hq q (by omega) h2)
    have bad : k < n → ¬ ((T k = 0 → sdC W C k = 0) ∧ (T k = 1 → sdC W C k = 1)) → ¬ fitP W (W * H) C T n := fun h1 h2 z => h2 (z k (by omega) h1)
    have t0 : T k = 0 ↔ (T k).toInt = 0 := i_eq
    have t1 : T k = 1 ↔ (T k).toInt = 1 := i_eq
    rw [t0, t1] at nxt bad
    unfold sdC at nxt bad
    refine g_iload_n (i := 3) rfl rfl ?_
    refine g_aload_n (i := 0) rfl rfl ?_
    refine g_getfield (v := .int (J 0)) rfl hr (by decide) rfl ?_
    refine g_aload_n (i := 0) rfl rfl ?_
    refine g_getfield (v := .int (J 1)) rfl hr (by decide) rfl ?_
    refine g_imul rfl ?_
    refine g_icmp_ge 99 rfl rfl (fun hc => absurd hc (by rw [i_le, hwn, ek]; omega)) (fun _ => ?_)
    refine g_iload_n (i := 3) rfl rfl ?_
    refine g_aload_n (i := 0) rfl rfl ?_
    refine g_getfield (v := .ref 69) rfl hr (by decide) rfl ?_
    refine g_iload_n (i := 2) rfl rfl ?_
    refine g_iaload (n := 8) (f := sz) rfl a6 (i_in (by omega) (by omega)) ?_
    rw [i_nat hs]
    refine g_icmp_ge 99 rfl rfl (fun c_1 => ?_) (fun c_1 => ?_)
    · skip
      rw [i_le, ek, esz] at c_1
      refine g_iconst (n := 1) rfl ?_
      refine g_ireturn (ty := .boolean) rfl rfl (by decide) ?_
      exact ⟨rfl, Or.inl ⟨fun q h1 h2 => hq q (by omega) h2, rfl⟩⟩
    · skip
      rw [i_le, ek, esz] at c_1
      refine g_aload_n (i := 0) rfl rfl ?_
      refine g_iload_n (i := 2) rfl rfl ?_
      refine g_iload_n (i := 3) rfl rfl ?_
      have hkn : k < n := by omega
      refine g_virt2 (Qc := fun r h' => h' = h ∧ r = some (.int (T k))) rfl (by decide) rfl hr rfl (Nat.le_of_ble_eq_true rfl) (s_intAt12 (by omega) hr a8 hs RT1 hkn) (fun r h hq9 => ?_)
      obtain ⟨rfl, rfl⟩ := hq9
      refine g_istore (i := 4) (L1 := [some (.ref 60), some (.int x), some (.int s), some (.int (Int32.ofNat k)), some (.int (T k))]) rfl (Nat.le_of_ble_eq_true rfl) rfl ?_
      refine g_iload (i := 4) rfl rfl ?_
      have k_3 : (0 : Int32).toInt = 0 := rfl
      refine g_if_eq 47 rfl rfl (fun c_2 => ?_) (fun c_2 => ?_)
      · skip
        rw [i_eq, k_3] at c_2
        refine g_iload_n (i := 1) rfl rfl ?_
        refine g_sipush (n := 1000) rfl ?_
        have k_4 : ((Int16.ofInt 1000).toInt32).toInt = 1000 := rfl
        refine g_idiv rfl (by decide) ?_
        refine g_iconst (n := 3) rfl ?_
        have k_6 : (Int32.ofInt 3).toInt = 3 := rfl
        refine g_icmp_ne 72 rfl rfl (fun c_5 => ?_) (fun c_5 => ?_)
        · skip
          rw [i_eq, a0, k_6] at c_5
          refine g_aload_n (i := 0) rfl rfl ?_
          refine g_iload_n (i := 1) rfl rfl ?_
          refine g_iload_n (i := 3) rfl rfl ?_
          refine g_virt2 (Qc := fun r h' => h' = h ∧ (((isF W C k = true) ∧ r = some (.int 1)) ∨ (¬ (isF W C k = true) ∧ r = some (.int 0)))) rfl (by decide) rfl hr rfl (Nat.le_of_ble_eq_true rfl) (s_isFirst2 (C := C) (q := k) (by omega) hr g hx hc (by omega)) (fun r h hq9 => ?_)
          obtain ⟨rfl, ⟨c_7, rfl⟩ | ⟨c_7, rfl⟩⟩ := hq9
          · skip
            refine g_iload (i := 4) rfl rfl ?_
            refine g_if_ne 87 rfl rfl (fun c_8 => ?_) (fun c_8 => ?_)
            · skip
              rw [i_eq, k_3] at c_8
              refine g_iconst (n := 0) rfl ?_
              have k_10 : (1 : Int32).toInt = 1 := rfl
              have k_11 : (Int32.ofInt 0).toInt = 0 := rfl
              refine g_icmp_eq 93 rfl rfl (fun c_9 => ?_) (fun c_9 => ?_)
              · skip
                rw [i_eq, k_10, k_11] at c_9
                refine g_iinc (i := 3) (L1 := [some (.ref 60), some (.int x), some (.int s), some (.int ((Int32.ofNat k) + Int32.ofInt 1)), some (.int (T k))]) rfl rfl rfl ?_
                rw [ofN_add (by omega)]
                refine g_goto 2 rfl rfl ?_
                first | (exfalso; omega) | exact nxt _ (fun _ => by rw [if_neg (by omega), if_pos c_7]; omega)
              · skip
                rw [i_eq, k_10, k_11] at c_9
                refine g_iconst (n := 0) rfl ?_
                refine g_ireturn (ty := .boolean) rfl rfl (by decide) ?_
                first | (exfalso; omega) | exact ⟨rfl, Or.inr ⟨bad hkn (by rw [if_neg (by omega), if_pos c_7]; omega), rfl⟩⟩
            · skip
              rw [i_eq, k_3] at c_8
              refine g_iconst (n := 1) rfl ?_
              refine g_goto 88 rfl rfl ?_
              have k_13 : (1 : Int32).toInt = 1 := rfl
              have k_14 : (Int32.ofInt 1).toInt = 1 := rfl
              refine g_icmp_eq 93 rfl rfl (fun c_12 => ?_) (fun c_12 => ?_)
              · skip
                rw [i_eq, k_13, k_14] at c_12
                refine g_iinc (i := 3) (L1 := [some (.ref 60), some (.int x), some (.int s), some (.int ((Int32.ofNat k) + Int32.ofInt 1)), some (.int (T k))]) rfl rfl rfl ?_
                rw [ofN_add (by omega)]
                refine g_goto 2 rfl rfl ?_
                first | (exfalso; omega) | exact nxt _ (fun _ => by rw [if_neg (by omega), if_pos c_7]; omega)
              · skip
                rw [i_eq, k_13, k_14] at c_12
                refine g_iconst (n := 0) rfl ?_
                refine g_ireturn (ty := .boolean) rfl rfl (by decide) ?_
                first | (exfalso; omega) | exact ⟨rfl, Or.inr ⟨bad hkn (by rw [if_neg (by omega), if_pos c_7]; omega), rfl⟩⟩
          · skip
            refine g_iload (i := 4) rfl rfl ?_
            refine g_if_ne 87 rfl rfl (fun c_15 => ?_) (fun c_15 => ?_)
            · skip
              rw [i_eq, k_3] at c_15
              refine g_iconst (n := 0) rfl ?_
              have k_17 : (Int32.ofInt 0).toInt = 0 := rfl
              refine g_icmp_eq 93 rfl rfl (fun c_16 => ?_) (fun c_16 => ?_)
              · skip
                rw [i_eq, k_3, k_17] at c_16
                refine g_iinc (i := 3) (L1 := [some (.ref 60), some (.int x), some (.int s), some (.int ((Int32.ofNat k) + Int32.ofInt 1)), some (.int (T k))]) rfl rfl rfl ?_
                rw [ofN_add (by omega)]
                refine g_goto 2 rfl rfl ?_
                first | (exfalso; omega) | exact nxt _ (fun _ => by rw [if_neg (by omega), if_neg c_7]; omega)
              · skip
                rw [i_eq, k_3, k_17] at c_16
                refine g_iconst (n := 0) rfl ?_
                refine g_ireturn (ty := .boolean) rfl rfl (by decide) ?_
                first | (exfalso; omega) | exact ⟨rfl, Or.inr ⟨bad hkn (by rw [if_neg (by omega), if_neg c_7]; omega), rfl⟩⟩
            · skip
              rw [i_eq, k_3] at c_15
              refine g_iconst (n := 1) rfl ?_
              refine g_goto 88 rfl rfl ?_
              have k_19 : (Int32.ofInt 1).toInt = 1 := rfl
              refine g_icmp_eq 93 rfl rfl (fun c_18 => ?_) (fun c_18 => ?_)
              · skip
                rw [i_eq, k_3, k_19] at c_18
                refine g_iinc (i := 3) (L1 := [some (.ref 60), some (.int x), some (.int s), some (.int ((Int32.ofNat k) + Int32.ofInt 1)), some (.int (T k))]) rfl rfl rfl ?_
                rw [ofN_add (by omega)]
                refine g_goto 2 rfl rfl ?_
                first | (exfalso; omega) | exact nxt _ (fun _ => by rw [if_neg (by omega), if_neg c_7]; omega)
              · skip
                rw [i_eq, k_3, k_19] at c_18
                refine g_iconst (n := 0) rfl ?_
                refine g_ireturn (ty := .boolean) rfl rfl (by decide) ?_
                first | (exfalso; omega) | exact ⟨rfl, Or.inr ⟨bad hkn (by rw [if_neg (by omega), if_neg c_7]; omega), rfl⟩⟩
        · skip
          rw [i_eq, a0, k_6] at c_5
          refine g_iload_n (i := 3) rfl rfl ?_
          refine g_aload_n (i := 0) rfl rfl ?_
          refine g_getfield (v := .int (J 0)) rfl hr (by decide) rfl ?_
          refine g_irem rfl (by intro z; rw [z] at hw0; have e : (0 : Int32).toInt = 0 := rfl; omega) ?_
          refine g_iload_n (i := 1) rfl rfl ?_
          refine g_bipush (n := 100) rfl ?_
          have k_20 : ((Int8.ofInt 100).toInt32).toInt = 100 := rfl
          refine g_idiv rfl (by decide) ?_
          have t_21 : ((x / (Int8.ofInt 100).toInt32)).toInt = ((C / 100 : Nat) : Int) := n_div (X := C) (Y := 100) hx (show _ = ((100 : Nat) : Int) from k_20) (by omega)
          refine g_bipush (n := 10) rfl ?_
          have k_22 : ((Int8.ofInt 10).toInt32).toInt = 10 := rfl
          refine g_irem rfl (by decide) ?_
          have t_23 : (((x / (Int8.ofInt 100).toInt32) - (x / (Int8.ofInt 100).toInt32) / (Int8.ofInt 10).toInt32 * (Int8.ofInt 10).toInt32)).toInt = (((C / 100) % 10 : Nat) : Int) := n_rem (X := C / 100) (Y := 10) t_21 (show _ = ((10 : Nat) : Int) from k_22) (by omega)
          refine g_icmp_eq 91 rfl rfl (fun c_24 => ?_) (fun c_24 => ?_)
          · skip
            rw [i_eq, a4, t_23] at c_24
            refine g_iconst (n := 0) rfl ?_
            refine g_ireturn (ty := .boolean) rfl rfl (by decide) ?_
            first | (exfalso; omega) | exact ⟨rfl, Or.inr ⟨bad hkn (by rw [if_pos (by omega)]; omega), rfl⟩⟩
          · skip
            rw [i_eq, a4, t_23] at c_24
            refine g_aload_n (i := 0) rfl rfl ?_
            refine g_iload_n (i := 1) rfl rfl ?_
            refine g_iload_n (i := 3) rfl rfl ?_
            refine g_virt2 (Qc := fun r h' => h' = h ∧ (((isF W C k = true) ∧ r = some (.int 1)) ∨ (¬ (isF W C k = true) ∧ r = some (.int 0)))) rfl (by decide) rfl hr rfl (Nat.le_of_ble_eq_true rfl) (s_isFirst2 (C := C) (q := k) (by omega) hr g hx hc (by omega)) (fun r h hq9 => ?_)
            obtain ⟨rfl, ⟨c_25, rfl⟩ | ⟨c_25, rfl⟩⟩ := hq9
            · skip
              refine g_iload (i := 4) rfl rfl ?_
              refine g_if_ne 87 rfl rfl (fun c_26 => ?_) (fun c_26 => ?_)
              · skip
                rw [i_eq, k_3] at c_26
                refine g_iconst (n := 0) rfl ?_
                have k_28 : (1 : Int32).toInt = 1 := rfl
                have k_29 : (Int32.ofInt 0).toInt = 0 := rfl
                refine g_icmp_eq 93 rfl rfl (fun c_27 => ?_) (fun c_27 => ?_)
                · skip
                  rw [i_eq, k_28, k_29] at c_27
                  refine g_iinc (i := 3) (L1 := [some (.ref 60), some (.int x), some (.int s), some (.int ((Int32.ofNat k) + Int32.ofInt 1)), some (.int (T k))]) rfl rfl rfl ?_
                  rw [ofN_add (by omega)]
                  refine g_goto 2 rfl rfl ?_
                  first | (exfalso; omega) | exact nxt _ (fun _ => by rw [if_neg (by omega), if_pos c_25]; omega)
                · skip
                  rw [i_eq, k_28, k_29] at c_27
                  refine g_iconst (n := 0) rfl ?_
                  refine g_ireturn (ty := .boolean) rfl rfl (by decide) ?_
                  first | (exfalso; omega) | exact ⟨rfl, Or.inr ⟨bad hkn (by rw [if_neg (by omega), if_pos c_25]; omega), rfl⟩⟩
              · skip
                rw [i_eq, k_3] at c_26
                refine g_iconst (n := 1) rfl ?_
                refine g_goto 88 rfl rfl ?_
                have k_31 : (1 : Int32).toInt = 1 := rfl
                have k_32 : (Int32.ofInt 1).toInt = 1 := rfl
                refine g_icmp_eq 93 rfl rfl (fun c_30 => ?_) (fun c_30 => ?_)
                · skip
                  rw [i_eq, k_31, k_32] at c_30
                  refine g_iinc (i := 3) (L1 := [some (.ref 60), some (.int x), some (.int s), some (.int ((Int32.ofNat k) + Int32.ofInt 1)), some (.int (T k))]) rfl rfl rfl ?_
                  rw [ofN_add (by omega)]
                  refine g_goto 2 rfl rfl ?_
                  first | (exfalso; omega) | exact nxt _ (fun _ => by rw [if_neg (by omega), if_pos c_25]; omega)
                · skip
                  rw [i_eq, k_31, k_32] at c_30
                  refine g_iconst (n := 0) rfl ?_
                  refine g_ireturn (ty := .boolean) rfl rfl (by decide) ?_
                  first | (exfalso; omega) | exact ⟨rfl, Or.inr ⟨bad hkn (by rw [if_neg (by omega), if_pos c_25]; omega), rfl⟩⟩
            · skip
              refine g_iload (i := 4) rfl rfl ?_
              refine g_if_ne 87 rfl rfl (fun c_33 => ?_) (fun c_33 => ?_)
              · skip
                rw [i_eq, k_3] at c_33
                refine g_iconst (n := 0) rfl ?_
                have k_35 : (Int32.ofInt 0).toInt = 0 := rfl
                refine g_icmp_eq 93 rfl rfl (fun c_34 => ?_) (fun c_34 => ?_)
                · skip
                  rw [i_eq, k_3, k_35] at c_34
                  refine g_iinc (i := 3) (L1 := [some (.ref 60), some (.int x), some (.int s), some (.int ((Int32.ofNat k) + Int32.ofInt 1)), some (.int (T k))]) rfl rfl rfl ?_
                  rw [ofN_add (by omega)]
                  refine g_goto 2 rfl rfl ?_
                  first | (exfalso; omega) | exact nxt _ (fun _ => by rw [if_neg (by omega), if_neg c_25]; omega)
                · skip
                  rw [i_eq, k_3, k_35] at c_34
                  refine g_iconst (n := 0) rfl ?_
                  refine g_ireturn (ty := .boolean) rfl rfl (by decide) ?_
                  first | (exfalso; omega) | exact ⟨rfl, Or.inr ⟨bad hkn (by rw [if_neg (by omega), if_neg c_25]; omega), rfl⟩⟩
              · skip
                rw [i_eq, k_3] at c_33
                refine g_iconst (n := 1) rfl ?_
                refine g_goto 88 rfl rfl ?_
                have k_37 : (Int32.ofInt 1).toInt = 1 := rfl
                refine g_icmp_eq 93 rfl rfl (fun c_36 => ?_) (fun c_36 => ?_)
                · skip
                  rw [i_eq, k_3, k_37] at c_36
                  refine g_iinc (i := 3) (L1 := [some (.ref 60), some (.int x), some (.int s), some (.int ((Int32.ofNat k) + Int32.ofInt 1)), some (.int (T k))]) rfl rfl rfl ?_
                  rw [ofN_add (by omega)]
                  refine g_goto 2 rfl rfl ?_
                  first | (exfalso; omega) | exact nxt _ (fun _ => by rw [if_neg (by omega), if_neg c_25]; omega)
                · skip
                  rw [i_eq, k_3, k_37] at c_36
                  refine g_iconst (n := 0) rfl ?_
                  refine g_ireturn (ty := .boolean) rfl rfl (by decide) ?_
                  first | (exfalso; omega) | exact ⟨rfl, Or.inr ⟨bad hkn (by rw [if_neg (by omega), if_neg c_25]; omega), rfl⟩⟩
      · skip
        rw [i_eq, k_3] at c_2
        refine g_iload (i := 4) rfl rfl ?_
        refine g_iconst (n := 1) rfl ?_
        have k_39 : (Int32.ofInt 1).toInt = 1 := rfl
        refine g_icmp_eq 47 rfl rfl (fun c_38 => ?_) (fun c_38 => ?_)
        · skip
          rw [i_eq, k_39] at c_38
          refine g_iload_n (i := 1) rfl rfl ?_
          refine g_sipush (n := 1000) rfl ?_
          have k_40 : ((Int16.ofInt 1000).toInt32).toInt = 1000 := rfl
          refine g_idiv rfl (by decide) ?_
          refine g_iconst (n := 3) rfl ?_
          have k_42 : (Int32.ofInt 3).toInt = 3 := rfl
          refine g_icmp_ne 72 rfl rfl (fun c_41 => ?_) (fun c_41 => ?_)
          · skip
            rw [i_eq, a0, k_42] at c_41
            refine g_aload_n (i := 0) rfl rfl ?_
            refine g_iload_n (i := 1) rfl rfl ?_
            refine g_iload_n (i := 3) rfl rfl ?_
            refine g_virt2 (Qc := fun r h' => h' = h ∧ (((isF W C k = true) ∧ r = some (.int 1)) ∨ (¬ (isF W C k = true) ∧ r = some (.int 0)))) rfl (by decide) rfl hr rfl (Nat.le_of_ble_eq_true rfl) (s_isFirst2 (C := C) (q := k) (by omega) hr g hx hc (by omega)) (fun r h hq9 => ?_)
            obtain ⟨rfl, ⟨c_43, rfl⟩ | ⟨c_43, rfl⟩⟩ := hq9
            · skip
              refine g_iload (i := 4) rfl rfl ?_
              refine g_if_ne 87 rfl rfl (fun c_44 => ?_) (fun c_44 => ?_)
              · skip
                rw [i_eq, k_3] at c_44
                refine g_iconst (n := 0) rfl ?_
                have k_46 : (1 : Int32).toInt = 1 := rfl
                have k_47 : (Int32.ofInt 0).toInt = 0 := rfl
                refine g_icmp_eq 93 rfl rfl (fun c_45 => ?_) (fun c_45 => ?_)
                · skip
                  rw [i_eq, k_46, k_47] at c_45
                  refine g_iinc (i := 3) (L1 := [some (.ref 60), some (.int x), some (.int s), some (.int ((Int32.ofNat k) + Int32.ofInt 1)), some (.int (T k))]) rfl rfl rfl ?_
                  rw [ofN_add (by omega)]
                  refine g_goto 2 rfl rfl ?_
                  first | (exfalso; omega) | exact nxt _ (fun _ => by rw [if_neg (by omega), if_pos c_43]; omega)
                · skip
                  rw [i_eq, k_46, k_47] at c_45
                  refine g_iconst (n := 0) rfl ?_
                  refine g_ireturn (ty := .boolean) rfl rfl (by decide) ?_
                  first | (exfalso; omega) | exact ⟨rfl, Or.inr ⟨bad hkn (by rw [if_neg (by omega), if_pos c_43]; omega), rfl⟩⟩
              · skip
                rw [i_eq, k_3] at c_44
                refine g_iconst (n := 1) rfl ?_
                refine g_goto 88 rfl rfl ?_
                have k_49 : (1 : Int32).toInt = 1 := rfl
                refine g_icmp_eq 93 rfl rfl (fun c_48 => ?_) (fun c_48 => ?_)
                · skip
                  rw [i_eq, k_49, k_39] at c_48
                  refine g_iinc (i := 3) (L1 := [some (.ref 60), some (.int x), some (.int s), some (.int ((Int32.ofNat k) + Int32.ofInt 1)), some (.int (T k))]) rfl rfl rfl ?_
                  rw [ofN_add (by omega)]
                  refine g_goto 2 rfl rfl ?_
                  first | (exfalso; omega) | exact nxt _ (fun _ => by rw [if_neg (by omega), if_pos c_43]; omega)
                · skip
                  rw [i_eq, k_49, k_39] at c_48
                  refine g_iconst (n := 0) rfl ?_
                  refine g_ireturn (ty := .boolean) rfl rfl (by decide) ?_
                  first | (exfalso; omega) | exact ⟨rfl, Or.inr ⟨bad hkn (by rw [if_neg (by omega), if_pos c_43]; omega), rfl⟩⟩
            · skip
              refine g_iload (i := 4) rfl rfl ?_
              refine g_if_ne 87 rfl rfl (fun c_50 => ?_) (fun c_50 => ?_)
              · skip
                rw [i_eq, k_3] at c_50
                refine g_iconst (n := 0) rfl ?_
                have k_52 : (Int32.ofInt 0).toInt = 0 := rfl
                refine g_icmp_eq 93 rfl rfl (fun c_51 => ?_) (fun c_51 => ?_)
                · skip
                  rw [i_eq, k_3, k_52] at c_51
                  refine g_iinc (i := 3) (L1 := [some (.ref 60), some (.int x), some (.int s), some (.int ((Int32.ofNat k) + Int32.ofInt 1)), some (.int (T k))]) rfl rfl rfl ?_
                  rw [ofN_add (by omega)]
                  refine g_goto 2 rfl rfl ?_
                  first | (exfalso; omega) | exact nxt _ (fun _ => by rw [if_neg (by omega), if_neg c_43]; omega)
                · skip
                  rw [i_eq, k_3, k_52] at c_51
                  refine g_iconst (n := 0) rfl ?_
                  refine g_ireturn (ty := .boolean) rfl rfl (by decide) ?_
                  first | (exfalso; omega) | exact ⟨rfl, Or.inr ⟨bad hkn (by rw [if_neg (by omega), if_neg c_43]; omega), rfl⟩⟩
              · skip
                rw [i_eq, k_3] at c_50
                refine g_iconst (n := 1) rfl ?_
                refine g_goto 88 rfl rfl ?_
                refine g_icmp_eq 93 rfl rfl (fun c_53 => ?_) (fun c_53 => ?_)
                · skip
                  rw [i_eq, k_3, k_39] at c_53
                  refine g_iinc (i := 3) (L1 := [some (.ref 60), some (.int x), some (.int s), some (.int ((Int32.ofNat k) + Int32.ofInt 1)), some (.int (T k))]) rfl rfl rfl ?_
                  rw [ofN_add (by omega)]
                  refine g_goto 2 rfl rfl ?_
                  first | (exfalso; omega) | exact nxt _ (fun _ => by rw [if_neg (by omega), if_neg c_43]; omega)
                · skip
                  rw [i_eq, k_3, k_39] at c_53
                  refine g_iconst (n := 0) rfl ?_
                  refine g_ireturn (ty := .boolean) rfl rfl (by decide) ?_
                  first | (exfalso; omega) | exact ⟨rfl, Or.inr ⟨bad hkn (by rw [if_neg (by omega), if_neg c_43]; omega), rfl⟩⟩
          · skip
            rw [i_eq, a0, k_42] at c_41
            refine g_iload_n (i := 3) rfl rfl ?_
            refine g_aload_n (i := 0) rfl rfl ?_
            refine g_getfield (v := .int (J 0)) rfl hr (by decide) rfl ?_
            refine g_irem rfl (by intro z; rw [z] at hw0; have e : (0 : Int32).toInt = 0 := rfl; omega) ?_
            refine g_iload_n (i := 1) rfl rfl ?_
            refine g_bipush (n := 100) rfl ?_
            have k_54 : ((Int8.ofInt 100).toInt32).toInt = 100 := rfl
            refine g_idiv rfl (by decide) ?_
            have t_55 : ((x / (Int8.ofInt 100).toInt32)).toInt = ((C / 100 : Nat) : Int) := n_div (X := C) (Y := 100) hx (show _ = ((100 : Nat) : Int) from k_54) (by omega)
            refine g_bipush (n := 10) rfl ?_
            have k_56 : ((Int8.ofInt 10).toInt32).toInt = 10 := rfl
            refine g_irem rfl (by decide) ?_
            have t_57 : (((x / (Int8.ofInt 100).toInt32) - (x / (Int8.ofInt 100).toInt32) / (Int8.ofInt 10).toInt32 * (Int8.ofInt 10).toInt32)).toInt = (((C / 100) % 10 : Nat) : Int) := n_rem (X := C / 100) (Y := 10) t_55 (show _ = ((10 : Nat) : Int) from k_56) (by omega)
            refine g_icmp_eq 91 rfl rfl (fun c_58 => ?_) (fun c_58 => ?_)
            · skip
              rw [i_eq, a4, t_57] at c_58
              refine g_iconst (n := 0) rfl ?_
              refine g_ireturn (ty := .boolean) rfl rfl (by decide) ?_
              first | (exfalso; omega) | exact ⟨rfl, Or.inr ⟨bad hkn (by rw [if_pos (by omega)]; omega), rfl⟩⟩
            · skip
              rw [i_eq, a4, t_57] at c_58
              refine g_aload_n (i := 0) rfl rfl ?_
              refine g_iload_n (i := 1) rfl rfl ?_
              refine g_iload_n (i := 3) rfl rfl ?_
              refine g_virt2 (Qc := fun r h' => h' = h ∧ (((isF W C k = true) ∧ r = some (.int 1)) ∨ (¬ (isF W C k = true) ∧ r = some (.int 0)))) rfl (by decide) rfl hr rfl (Nat.le_of_ble_eq_true rfl) (s_isFirst2 (C := C) (q := k) (by omega) hr g hx hc (by omega)) (fun r h hq9 => ?_)
              obtain ⟨rfl, ⟨c_59, rfl⟩ | ⟨c_59, rfl⟩⟩ := hq9
              · skip
                refine g_iload (i := 4) rfl rfl ?_
                refine g_if_ne 87 rfl rfl (fun c_60 => ?_) (fun c_60 => ?_)
                · skip
                  rw [i_eq, k_3] at c_60
                  refine g_iconst (n := 0) rfl ?_
                  have k_62 : (1 : Int32).toInt = 1 := rfl
                  have k_63 : (Int32.ofInt 0).toInt = 0 := rfl
                  refine g_icmp_eq 93 rfl rfl (fun c_61 => ?_) (fun c_61 => ?_)
                  · skip
                    rw [i_eq, k_62, k_63] at c_61
                    refine g_iinc (i := 3) (L1 := [some (.ref 60), some (.int x), some (.int s), some (.int ((Int32.ofNat k) + Int32.ofInt 1)), some (.int (T k))]) rfl rfl rfl ?_
                    rw [ofN_add (by omega)]
                    refine g_goto 2 rfl rfl ?_
                    first | (exfalso; omega) | exact nxt _ (fun _ => by rw [if_neg (by omega), if_pos c_59]; omega)
                  · skip
                    rw [i_eq, k_62, k_63] at c_61
                    refine g_iconst (n := 0) rfl ?_
                    refine g_ireturn (ty := .boolean) rfl rfl (by decide) ?_
                    first | (exfalso; omega) | exact ⟨rfl, Or.inr ⟨bad hkn (by rw [if_neg (by omega), if_pos c_59]; omega), rfl⟩⟩
                · skip
                  rw [i_eq, k_3] at c_60
                  refine g_iconst (n := 1) rfl ?_
                  refine g_goto 88 rfl rfl ?_
                  have k_65 : (1 : Int32).toInt = 1 := rfl
                  refine g_icmp_eq 93 rfl rfl (fun c_64 => ?_) (fun c_64 => ?_)
                  · skip
                    rw [i_eq, k_65, k_39] at c_64
                    refine g_iinc (i := 3) (L1 := [some (.ref 60), some (.int x), some (.int s), some (.int ((Int32.ofNat k) + Int32.ofInt 1)), some (.int (T k))]) rfl rfl rfl ?_
                    rw [ofN_add (by omega)]
                    refine g_goto 2 rfl rfl ?_
                    first | (exfalso; omega) | exact nxt _ (fun _ => by rw [if_neg (by omega), if_pos c_59]; omega)
                  · skip
                    rw [i_eq, k_65, k_39] at c_64
                    refine g_iconst (n := 0) rfl ?_
                    refine g_ireturn (ty := .boolean) rfl rfl (by decide) ?_
                    first | (exfalso; omega) | exact ⟨rfl, Or.inr ⟨bad hkn (by rw [if_neg (by omega), if_pos c_59]; omega), rfl⟩⟩
              · skip
                refine g_iload (i := 4) rfl rfl ?_
                refine g_if_ne 87 rfl rfl (fun c_66 => ?_) (fun c_66 => ?_)
                · skip
                  rw [i_eq, k_3] at c_66
                  refine g_iconst (n := 0) rfl ?_
                  have k_68 : (Int32.ofInt 0).toInt = 0 := rfl
                  refine g_icmp_eq 93 rfl rfl (fun c_67 => ?_) (fun c_67 => ?_)
                  · skip
                    rw [i_eq, k_3, k_68] at c_67
                    refine g_iinc (i := 3) (L1 := [some (.ref 60), some (.int x), some (.int s), some (.int ((Int32.ofNat k) + Int32.ofInt 1)), some (.int (T k))]) rfl rfl rfl ?_
                    rw [ofN_add (by omega)]
                    refine g_goto 2 rfl rfl ?_
                    first | (exfalso; omega) | exact nxt _ (fun _ => by rw [if_neg (by omega), if_neg c_59]; omega)
                  · skip
                    rw [i_eq, k_3, k_68] at c_67
                    refine g_iconst (n := 0) rfl ?_
                    refine g_ireturn (ty := .boolean) rfl rfl (by decide) ?_
                    first | (exfalso; omega) | exact ⟨rfl, Or.inr ⟨bad hkn (by rw [if_neg (by omega), if_neg c_59]; omega), rfl⟩⟩
                · skip
                  rw [i_eq, k_3] at c_66
                  refine g_iconst (n := 1) rfl ?_
                  refine g_goto 88 rfl rfl ?_
                  refine g_icmp_eq 93 rfl rfl (fun c_69 => ?_) (fun c_69 => ?_)
                  · skip
                    rw [i_eq, k_3, k_39] at c_69
                    refine g_iinc (i := 3) (L1 := [some (.ref 60), some (.int x), some (.int s), some (.int ((Int32.ofNat k) + Int32.ofInt 1)), some (.int (T k))]) rfl rfl rfl ?_
                    rw [ofN_add (by omega)]
                    refine g_goto 2 rfl rfl ?_
                    first | (exfalso; omega) | exact nxt _ (fun _ => by rw [if_neg (by omega), if_neg c_59]; omega)
                  · skip
                    rw [i_eq, k_3, k_39] at c_69
                    refine g_iconst (n := 0) rfl ?_
                    refine g_ireturn (ty := .boolean) rfl rfl (by decide) ?_
                    first | (exfalso; omega) | exact ⟨rfl, Or.inr ⟨bad hkn (by rw [if_neg (by omega), if_neg c_59]; omega), rfl⟩⟩
        · skip
          rw [i_eq, k_39] at c_38
          refine g_goto 93 rfl rfl ?_
          refine g_iinc (i := 3) (L1 := [some (.ref 60), some (.int x), some (.int s), some (.int ((Int32.ofNat k) + Int32.ofInt 1)), some (.int (T k))]) rfl rfl rfl ?_
          rw [ofN_add (by omega)]
          refine g_goto 2 rfl rfl ?_
          first | (exfalso; omega) | exact nxt _ (fun _ => by omega)
theorem s_isFit {d : Nat} {h : sHp} {J : Nat → Int32} {W H : Nat} {x s : Int32} {C S n : Nat} {sz : Nat → Int32} {cl : Nat → Int64} {T : Nat → Int32} (hd : 3 ≤ d) (hr : h[60]? = some (mO J)) (g : gdM J W H) (hx : x.toInt = C) (hc : C < 7000) (hs : s.toInt = S) (hS : S < 8) (a6 : h[69]? = some (.inl (0, 8, .inl sz))) (a8 : h[71]? = some (.inl (1, 800, .inr (.inl cl)))) (hz : sz S = Int32.ofNat n) (RT1 : RT cl S n T) : sDo d 243 [.ref 60, .int x, .int s] h (fun r h' => h' = h ∧ (fitP W (W * H) C T n ∧ r = some (.int 1) ∨ ¬ fitP W (W * H) C T n ∧ r = some (.int 0))) := by
  have key := s_isFit_go (d := d - 1) (by omega) hr g hx hc hs hS a6 a8 hz RT1 (W * H) 0 none (by omega) (fun q h1 _ => absurd h1 (Nat.not_lt_zero q))
  refine sDo_of1 (nL := 5) (L := [some (.ref 60), some (.int x), some (.int s), none, none]) (by omega) rfl rfl ?_
  refine g_iconst (n := 0) rfl ?_
  refine g_istore_n (i := 3) (L1 := [some (.ref 60), some (.int x), some (.int s), some (.int (Int32.ofInt 0)), none]) rfl (Nat.le_of_ble_eq_true rfl) rfl ?_
  exact key
end
section
/-! ===== the cuts, one after another ===== -/
def strT : Nat → Nat → List Nat
  | 0, _ => []
  | f + 1, a => (1000 + 100 * a) :: strT f (a + 1)
def alT : Nat → Nat → List Nat
  | 0, _ => []
  | f + 1, a => (4000 + 100 * a) :: alT f (a + 1)
def bnT3 : Nat → Nat → Nat → Nat → List Nat
  | 0, _, _, _ => []
  | f + 1, e, a, b => (2000 + 100 * a + 10 * b + e) :: bnT3 f (e + 1) a b
def bnT2 (W : Nat) : Nat → Nat → Nat → List Nat
  | 0, _, _ => []
  | f + 1, b, a => bnT3 (W + 1) 0 a b ++ bnT2 W f (b + 1) a
def bnT1 (W H : Nat) : Nat → Nat → List Nat
  | 0, _ => []
  | f + 1, a => bnT2 W (H - 1) 1 a ++ bnT1 W H f (a + 1)
def frT2 (W H : Nat) : Nat → Nat → Nat → List Nat
  | 0, _, _ => []
  | f + 1, b, a => (if a < W ∨ b < H then [5000 + 100 * a + 10 * b] else []) ++ frT2 W H f (b + 1) a
def frT1 (W H : Nat) : Nat → Nat → List Nat
  | 0, _ => []
  | f + 1, a => frT2 W H H 1 a ++ frT1 W H f (a + 1)
def lsT (W H : Nat) (b4 b32 : Bool) : List Nat := strT (W - 1) 1 ++ ((if b4 = true then bnT1 W H (W + 1) 0 else []) ++ (alT (H - 1) 1 ++ (if b32 = true then frT1 W H W 1 else [])))
theorem ls_ck : ((List.range 9).all fun W => (List.range 9).all fun H => Nat.ble (lsT W H true true).length 644) = true := by decide +kernel
theorem ls_le {W H : Nat} (w8 : W ≤ 8) (h8 : H ≤ 8) : (strT (W - 1) 1).length + ((bnT1 W H (W + 1) 0).length + ((alT (H - 1) 1).length + (frT1 W H W 1).length)) ≤ 644 := by
  have h := Nat.le_of_ble_eq_true (rg_all (rg_all ls_ck W (by omega)) H (by omega))
  unfold lsT at h
  rw [if_pos rfl, if_pos rfl, List.length_append, List.length_append, List.length_append] at h
  exact h
theorem ofB_toInt {n : Nat} (h : n < 100000) : (Int32.ofNat n).toInt = n := Int32.toInt_ofNat_of_lt (by omega)
theorem of_b {x : Int32} {X : Nat} (h : x.toInt = X) (hX : X < 100000) : x = Int32.ofNat X := Int32.toInt_inj.mp (by rw [h, ofB_toInt hX])
theorem fs_str {W n a : Nat} (ha : a < 10) : fsS W n (1000 + 100 * a) = colS W n a := by rw [fsS_1 (by omega), show (1000 + 100 * a) / 100 % 10 = a by omega]
theorem fs_al {W n a : Nat} (ha : a < 10) : fsS W n (4000 + 100 * a) = rowS W n a := by rw [fsS_4 (by omega), show (4000 + 100 * a) / 100 % 10 = a by omega]
theorem fs_bn {W n a b e : Nat} (ha : a < 10) (hb : b < 10) (he : e < 10) : fsS W n (2000 + 100 * a + 10 * b + e) = benS W n a b e := by rw [fsS_2 (by omega), show (2000 + 100 * a + 10 * b + e) / 100 % 10 = a by omega, show (2000 + 100 * a + 10 * b + e) / 10 % 10 = b by omega, show (2000 + 100 * a + 10 * b + e) % 10 = e by omega]
theorem fs_fr {W n a b : Nat} (ha : a < 10) (hb : b < 10) : fsS W n (5000 + 100 * a + 10 * b) = corS W n a b := by rw [fsS_5 (by omega), show (5000 + 100 * a + 10 * b) / 100 % 10 = a by omega, show (5000 + 100 * a + 10 * b) / 10 % 10 = b by omega]
/-- the search object -/
def sO (B : Nat → Int32) (S1 S2 : Int64) : va_E := .inr (8, [.int (B 0), .int (B 1), .long S1, .long S2, .int (B 4), .int (B 5), .int (B 6), .ref 39, .ref 40, .ref 41])
def lcP (h : sHp) (W n : Nat) (L : List Nat) (B0 : Nat → Int32) (S1 S2 : Int64) : Prop := ∃ (B fc : Nat → Int32) (ff : Nat → Int64), h[38]? = some (sO B S1 S2) ∧ (∀ j, j ≠ 6 → B j = B0 j) ∧ B 6 = Int32.ofNat L.length ∧ h[39]? = some (.inl (0, 644, .inl fc)) ∧ h[40]? = some (.inl (1, 644, .inr (.inl ff))) ∧ (∀ i c, L[i]? = some c → fc i = Int32.ofNat c) ∧ ∀ i c, L[i]? = some c → ff i = fsS W n c
def scE (h h' : sHp) : Prop := h'.length = h.length ∧ ∀ q, (q < 38 ∨ 40 < q) → h'[q]? = h[q]?
theorem scE_rfl {h : sHp} : scE h h := ⟨rfl, fun _ _ => rfl⟩
theorem scE_tr {a b c : sHp} (x : scE a b) (y : scE b c) : scE a c := ⟨y.1.trans x.1, fun q hq => (y.2 q hq).trans (x.2 q hq)⟩
theorem scE_set {h h1 : sHp} {q : Nat} {x : va_E} (a : scE h h1) (hq : 38 ≤ q ∧ q ≤ 40) : scE h (h1.set q x) := ⟨by rw [List.length_set]; exact a.1, fun p hp => by rw [s_set_ne (by omega)]; exact a.2 p hp⟩
theorem scE_FC {h h' : sHp} {c : CF} (E : scE h h') (F : FC h 5 c) : FC h' 5 c := by
  obtain ⟨a0, a1, a2, ⟨f, a3, a4⟩, a5, a6, a7⟩ := F
  have e := E.2
  exact ⟨(e _ (by omega)).trans a0, (e _ (by omega)).trans a1, (e _ (by omega)).trans a2, ⟨f, (e _ (by omega)).trans a3, a4⟩, fun k hk => (e _ (by omega)).trans (a5 k hk), (e _ (by omega)).trans a6, (e _ (by omega)).trans a7⟩
theorem app_at {α : Type} {L : List α} {c d : α} {i : Nat} (h : (L ++ [c])[i]? = some d) : (i < L.length ∧ L[i]? = some d) ∨ (i = L.length ∧ d = c) := app1_at h
theorem s_addCut {d : Nat} {h : sHp} {W n C : Nat} {L : List Nat} {B0 : Nat → Int32} {S1 S2 : Int64} {x : Int32} {l : Int64} (hd : 1 ≤ d) (P : lcP h W n L B0 S1 S2) (hl : L.length < 644) (hx : x = Int32.ofNat C) (hf : l = fsS W n C) : sDo d 91 [.ref 38, .int x, .long l] h (fun r h' => r = none ∧ lcP h' W n (L ++ [C]) B0 S1 S2 ∧ scE h h') := by
  obtain ⟨B, fc, ff, hS, b0, b6, h39, h40, p1, p2⟩ := P
  have e6 : (B 6).toInt = ((L.length : Nat) : Int) := by rw [b6]; exact ofN_toInt (by omega)
  have e644 : (Int16.ofInt 644).toInt32.toInt = 644 := rfl
  refine sDo_of1 (nL := 4) (L := [some (.ref 38), some (.int x), some (.long l), none]) hd rfl rfl ?_
  refine g_aload_n (i := 0) rfl rfl ?_
  refine g_getfield (v := .int (B 6)) rfl hS (by decide) rfl ?_
  refine g_sipush (n := 644) rfl ?_
  refine g_icmp_ge 40 rfl rfl (fun hc => absurd hc (by rw [i_le, e6, e644]; omega)) (fun _ => ?_)
  refine g_aload_n (i := 0) rfl rfl ?_
  refine g_getfield (v := .ref 39) rfl hS (by decide) rfl ?_
  refine g_aload_n (i := 0) rfl rfl ?_
  refine g_getfield (v := .int (B 6)) rfl hS (by decide) rfl ?_
  refine g_iload_n (i := 1) rfl rfl ?_
  refine g_iastore (n := 644) (f := fc) (h1 := h.set 39 (.inl (0, 644, .inl (upd fc L.length x)))) rfl h39 (i_in (by omega) (by omega)) (by rw [i_nat e6]) ?_
  have hS1 : (h.set 39 (.inl (0, 644, .inl (upd fc L.length x))))[38]? = some (sO B S1 S2) := by rw [s_set_ne (by decide)]; exact hS
  refine g_aload_n (i := 0) rfl rfl ?_
  refine g_getfield (v := .ref 40) rfl hS1 (by decide) rfl ?_
  refine g_aload_n (i := 0) rfl rfl ?_
  refine g_getfield (v := .int (B 6)) rfl hS1 (by decide) rfl ?_
  refine g_lload_n (i := 2) rfl rfl ?_
  refine g_lastore (n := 644) (f := ff) (h1 := (h.set 39 (.inl (0, 644, .inl (upd fc L.length x)))).set 40 (.inl (1, 644, .inr (.inl (vp_updL ff L.length l))))) rfl (by rw [s_set_ne (by decide)]; exact h40) (i_in (by omega) (by omega)) (by rw [i_nat e6]) ?_
  have hS2 : ((h.set 39 (.inl (0, 644, .inl (upd fc L.length x)))).set 40 (.inl (1, 644, .inr (.inl (vp_updL ff L.length l)))))[38]? = some (sO B S1 S2) := by rw [s_set_ne (by decide)]; exact hS1
  refine g_aload_n (i := 0) rfl rfl ?_
  refine g_dup rfl rfl ?_
  refine g_getfield (v := .int (B 6)) rfl hS2 (by decide) rfl ?_
  refine g_iconst (n := 1) rfl ?_
  have k_1 : (Int32.ofInt 1).toInt = 1 := rfl
  refine g_iadd rfl ?_
  have t_2 : ((B 6) + (Int32.ofInt 1)).toInt = ((L.length + 1 : Nat) : Int) := by rw [i_add (by rw [e6, k_1]; omega) (by rw [e6, k_1]; omega), e6, k_1]; omega
  refine g_putfield (h1 := List.set ((h.set 39 (.inl (0, 644, .inl (upd fc L.length x)))).set 40 (.inl (1, 644, .inr (.inl (vp_updL ff L.length l))))) 38 (sO (upd B 6 (B 6 + Int32.ofInt 1)) S1 S2)) rfl hS2 (by decide) (Nat.le_of_ble_eq_true rfl) rfl rfl ?_
  refine g_return rfl rfl ?_
  refine ⟨rfl, ⟨upd B 6 (B 6 + Int32.ofInt 1), upd fc L.length x, vp_updL ff L.length l, s_set_eq hS2, fun j hj => (u_ne hj).trans (b0 j hj), ?_, ?_, ?_, fun i c hi => ?_, fun i c hi => ?_⟩, scE_set (scE_set (scE_set scE_rfl (by decide)) (by decide)) (by decide)⟩
  · rw [u_at, b6, ofN_add (by omega), List.length_append]; rfl
  · rw [s_set_ne (by decide), s_set_ne (by decide)]; exact s_set_eq h39
  · rw [s_set_ne (by decide)]; exact s_set_eq (by rw [s_set_ne (by decide)]; exact h40)
  · rcases app_at hi with ⟨h1, h2⟩ | ⟨rfl, rfl⟩
    · rw [u_ne (by omega)]; exact p1 i c h2
    · rw [u_at]; exact hx
  · rcases app_at hi with ⟨h1, h2⟩ | ⟨rfl, rfl⟩
    · exact (if_neg (show ¬ i = L.length by omega)).trans (p2 i c h2)
    · exact (if_pos rfl).trans hf
theorem s_lc_str {d : Nat} {h0 : sHp} {c : CF} {W H : Nat} {B0 : Nat → Int32} {S1 S2 : Int64} {Q : Option Value → sHp → Prop} (hd : 4 ≤ d) (g : gdF c W H) (F0 : FC h0 5 c) {x2 x3 : Int32} : ∀ (f v : Nat) (h : sHp) (L : List Nat), v + f = W → 1 ≤ v → L.length + (strT f v).length ≤ 644 → scE h0 h → lcP h W (W * H) L B0 S1 S2 → (∀ (h' : sHp), scE h0 h' → lcP h' W (W * H) (L ++ strT f v) B0 S1 S2 → sGo none 92 d 42 [some (.ref 38), some (.ref 5), some (.int x2), some (.int x3), some (.int (Int32.ofNat W))] [] h' Q) → sGo none 92 d 8 [some (.ref 38), some (.ref 5), some (.int x2), some (.int x3), some (.int (Int32.ofNat v))] [] h Q := by
  have gd := g
  obtain ⟨gw, gh, w2, w8, h2, h8, -⟩ := gd
  have hw0 : (c.1 0).toInt = ((W : Nat) : Int) := by rw [gw]; exact ofN_toInt (by omega)
  have hw1 : (c.1 1).toInt = ((H : Nat) : Int) := by rw [gh]; exact ofN_toInt (by omega)
  have hn := gdF_n g
  intro f
  induction f with
  | zero =>
    intro v h L hv hv1 hl E P hQ
    have F := scE_FC E F0
    have ek := ofN_toInt (n := v) (by omega)
    refine g_iload (i := 4) rfl rfl ?_
    refine g_aload_n (i := 1) rfl rfl ?_
    refine g_getfield (v := .int (c.1 0)) rfl F.1 (by decide) rfl ?_
    refine g_icmp_ge 42 rfl rfl (fun _ => ?_) (fun hc => absurd hc (by rw [i_le, hw0, ek]; omega))
    have key := hQ h E (by rw [show strT 0 v = [] from rfl, List.append_nil]; exact P)
    rw [show v = W by omega]
    exact key
  | succ f ih =>
    intro v h L hv hv1 hl E P hQ
    have F := scE_FC E F0
    have ek := ofN_toInt (n := v) (by omega)
    obtain ⟨B, fc, ff, hS, -⟩ := id P
    rw [show strT (f + 1) v = (1000 + 100 * v) :: strT f (v + 1) from rfl] at hl hQ
    have hl5 := hl
    rw [List.length_cons] at hl5
    refine g_iload (i := 4) rfl rfl ?_
    refine g_aload_n (i := 1) rfl rfl ?_
    refine g_getfield (v := .int (c.1 0)) rfl F.1 (by decide) rfl ?_
    refine g_icmp_ge 42 rfl rfl (fun hc => absurd hc (by rw [i_le, hw0, ek]; omega)) (fun _ => ?_)
    refine g_aload_n (i := 0) rfl rfl ?_
    refine g_sipush (n := 1000) rfl ?_
    refine g_bipush (n := 100) rfl ?_
    refine g_iload (i := 4) rfl rfl ?_
    have k_1 : ((Int8.ofInt 100).toInt32).toInt = 100 := rfl
    refine g_imul rfl ?_
    have t_2 : (((Int8.ofInt 100).toInt32 * (Int32.ofNat v))).toInt = ((100 * v : Nat) : Int) := n_mul (X := 100) (Y := v) (show _ = ((100 : Nat) : Int) from k_1) (show _ = ((v : Nat) : Int) from ek) (by omega)
    have k_3 : ((Int16.ofInt 1000).toInt32).toInt = 1000 := rfl
    refine g_iadd rfl ?_
    have t_4 : ((Int16.ofInt 1000).toInt32 + ((Int8.ofInt 100).toInt32 * (Int32.ofNat v))).toInt = ((1000 + 100 * v : Nat) : Int) := by rw [i_add (by rw [k_3, t_2]; omega) (by rw [k_3, t_2]; omega), k_3, t_2]; omega
    refine g_aload_n (i := 1) rfl rfl ?_
    refine g_iload (i := 4) rfl rfl ?_
    refine g_virt1 (Qc := fun r h' => h' = h ∧ r = some (.long (colS W (W * H) (v)))) rfl (by decide) rfl F.1 rfl (Nat.le_of_ble_eq_true rfl) (s_columns (M := v) (by omega) F g ek) (fun r h hq9 => ?_)
    obtain ⟨rfl, rfl⟩ := hq9
    have hadd := s_addCut (d := d) (C := 1000 + 100 * v) (x := ((Int16.ofInt 1000).toInt32 + ((Int8.ofInt 100).toInt32 * (Int32.ofNat v)))) (l := (colS W (W * H) (v))) (by omega) P (by omega) (of_b (show (((Int16.ofInt 1000).toInt32 + ((Int8.ofInt 100).toInt32 * (Int32.ofNat v)))).toInt = ((1000 + 100 * v : Nat) : Int) by rw [t_4] <;> omega) (by omega)) (fs_str (by omega)).symm
    refine g_virt2 (Qc := fun r h' => r = none ∧ lcP h' W (W * H) (L ++ [1000 + 100 * v]) B0 S1 S2 ∧ scE h h') rfl (by decide) rfl hS rfl (Nat.le_of_ble_eq_true rfl) (hadd) (fun r h9 hq9 => ?_)
    obtain ⟨rfl, P1, E1⟩ := hq9
    refine g_iinc (i := 4) (L1 := [some (.ref 38), some (.ref 5), some (.int x2), some (.int x3), some (.int ((Int32.ofNat v) + Int32.ofInt 1))]) rfl rfl rfl ?_
    rw [ofN_add (by omega)]
    refine g_goto 8 rfl rfl ?_
    exact ih (v + 1) h9 (L ++ [1000 + 100 * v]) (by omega) (by omega) (by rw [List.length_append]; rw [List.length_cons] at hl; show L.length + 1 + _ ≤ 644; omega) (scE_tr E E1) P1 (fun h' e p => hQ h' e (by rw [List.append_assoc] at p; exact p))
theorem s_lc_al {d : Nat} {h0 : sHp} {c : CF} {W H : Nat} {B0 : Nat → Int32} {S1 S2 : Int64} {Q : Option Value → sHp → Prop} (hd : 4 ≤ d) (g : gdF c W H) (F0 : FC h0 5 c) {x2 x3 : Int32} : ∀ (f v : Nat) (h : sHp) (L : List Nat), v + f = H → 1 ≤ v → L.length + (alT f v).length ≤ 644 → scE h0 h → lcP h W (W * H) L B0 S1 S2 → (∀ (h' : sHp), scE h0 h' → lcP h' W (W * H) (L ++ alT f v) B0 S1 S2 → sGo none 92 d 88 [some (.ref 38), some (.ref 5), some (.int x2), some (.int x3), some (.int (Int32.ofNat H))] [] h' Q) → sGo none 92 d 54 [some (.ref 38), some (.ref 5), some (.int x2), some (.int x3), some (.int (Int32.ofNat v))] [] h Q := by
  have gd := g
  obtain ⟨gw, gh, w2, w8, h2, h8, -⟩ := gd
  have hw0 : (c.1 0).toInt = ((W : Nat) : Int) := by rw [gw]; exact ofN_toInt (by omega)
  have hw1 : (c.1 1).toInt = ((H : Nat) : Int) := by rw [gh]; exact ofN_toInt (by omega)
  have hn := gdF_n g
  intro f
  induction f with
  | zero =>
    intro v h L hv hv1 hl E P hQ
    have F := scE_FC E F0
    have ek := ofN_toInt (n := v) (by omega)
    refine g_iload (i := 4) rfl rfl ?_
    refine g_aload_n (i := 1) rfl rfl ?_
    refine g_getfield (v := .int (c.1 1)) rfl F.1 (by decide) rfl ?_
    refine g_icmp_ge 88 rfl rfl (fun _ => ?_) (fun hc => absurd hc (by rw [i_le, hw1, ek]; omega))
    have key := hQ h E (by rw [show alT 0 v = [] from rfl, List.append_nil]; exact P)
    rw [show v = H by omega]
    exact key
  | succ f ih =>
    intro v h L hv hv1 hl E P hQ
    have F := scE_FC E F0
    have ek := ofN_toInt (n := v) (by omega)
    obtain ⟨B, fc, ff, hS, -⟩ := id P
    rw [show alT (f + 1) v = (4000 + 100 * v) :: alT f (v + 1) from rfl] at hl hQ
    have hl5 := hl
    rw [List.length_cons] at hl5
    refine g_iload (i := 4) rfl rfl ?_
    refine g_aload_n (i := 1) rfl rfl ?_
    refine g_getfield (v := .int (c.1 1)) rfl F.1 (by decide) rfl ?_
    refine g_icmp_ge 88 rfl rfl (fun hc => absurd hc (by rw [i_le, hw1, ek]; omega)) (fun _ => ?_)
    refine g_aload_n (i := 0) rfl rfl ?_
    refine g_sipush (n := 4000) rfl ?_
    refine g_bipush (n := 100) rfl ?_
    refine g_iload (i := 4) rfl rfl ?_
    have k_1 : ((Int8.ofInt 100).toInt32).toInt = 100 := rfl
    refine g_imul rfl ?_
    have t_2 : (((Int8.ofInt 100).toInt32 * (Int32.ofNat v))).toInt = ((100 * v : Nat) : Int) := n_mul (X := 100) (Y := v) (show _ = ((100 : Nat) : Int) from k_1) (show _ = ((v : Nat) : Int) from ek) (by omega)
    have k_3 : ((Int16.ofInt 4000).toInt32).toInt = 4000 := rfl
    refine g_iadd rfl ?_
    have t_4 : ((Int16.ofInt 4000).toInt32 + ((Int8.ofInt 100).toInt32 * (Int32.ofNat v))).toInt = ((4000 + 100 * v : Nat) : Int) := by rw [i_add (by rw [k_3, t_2]; omega) (by rw [k_3, t_2]; omega), k_3, t_2]; omega
    refine g_aload_n (i := 1) rfl rfl ?_
    refine g_iload (i := 4) rfl rfl ?_
    refine g_virt1 (Qc := fun r h' => h' = h ∧ r = some (.long (rowS W (W * H) (v)))) rfl (by decide) rfl F.1 rfl (Nat.le_of_ble_eq_true rfl) (s_rowsBelow (M := v) (by omega) F g ek (by omega)) (fun r h hq9 => ?_)
    obtain ⟨rfl, rfl⟩ := hq9
    have hadd := s_addCut (d := d) (C := 4000 + 100 * v) (x := ((Int16.ofInt 4000).toInt32 + ((Int8.ofInt 100).toInt32 * (Int32.ofNat v)))) (l := (rowS W (W * H) (v))) (by omega) P (by omega) (of_b (show (((Int16.ofInt 4000).toInt32 + ((Int8.ofInt 100).toInt32 * (Int32.ofNat v)))).toInt = ((4000 + 100 * v : Nat) : Int) by rw [t_4] <;> omega) (by omega)) (fs_al (by omega)).symm
    refine g_virt2 (Qc := fun r h' => r = none ∧ lcP h' W (W * H) (L ++ [4000 + 100 * v]) B0 S1 S2 ∧ scE h h') rfl (by decide) rfl hS rfl (Nat.le_of_ble_eq_true rfl) (hadd) (fun r h9 hq9 => ?_)
    obtain ⟨rfl, P1, E1⟩ := hq9
    refine g_iinc (i := 4) (L1 := [some (.ref 38), some (.ref 5), some (.int x2), some (.int x3), some (.int ((Int32.ofNat v) + Int32.ofInt 1))]) rfl rfl rfl ?_
    rw [ofN_add (by omega)]
    refine g_goto 54 rfl rfl ?_
    exact ih (v + 1) h9 (L ++ [4000 + 100 * v]) (by omega) (by omega) (by rw [List.length_append]; rw [List.length_cons] at hl; show L.length + 1 + _ ≤ 644; omega) (scE_tr E E1) P1 (fun h' e p => hQ h' e (by rw [List.append_assoc] at p; exact p))
theorem s_lc_bn3 {d : Nat} {h0 : sHp} {c : CF} {W H : Nat} {B0 : Nat → Int32} {S1 S2 : Int64} {Q : Option Value → sHp → Prop} (hd : 4 ≤ d) (g : gdF c W H) (F0 : FC h0 5 c) {a b : Nat} (ha : a ≤ 8) (hb : b ≤ 8) : ∀ (f v : Nat) (h : sHp) (L : List Nat), v + f = W + 1 → True → L.length + (bnT3 f v a b).length ≤ 644 → scE h0 h → lcP h W (W * H) L B0 S1 S2 → (∀ (h' : sHp), scE h0 h' → lcP h' W (W * H) (L ++ bnT3 f v a b) B0 S1 S2 → sGo none 93 d 66 [some (.ref 38), some (.ref 5), some (.int (Int32.ofNat a)), some (.int (Int32.ofNat b)), some (.int (Int32.ofNat (W + 1)))] [] h' Q) → sGo none 93 d 23 [some (.ref 38), some (.ref 5), some (.int (Int32.ofNat a)), some (.int (Int32.ofNat b)), some (.int (Int32.ofNat v))] [] h Q := by
  have gd := g
  obtain ⟨gw, gh, w2, w8, h2, h8, -⟩ := gd
  have hw0 : (c.1 0).toInt = ((W : Nat) : Int) := by rw [gw]; exact ofN_toInt (by omega)
  have hw1 : (c.1 1).toInt = ((H : Nat) : Int) := by rw [gh]; exact ofN_toInt (by omega)
  have hn := gdF_n g
  intro f
  induction f with
  | zero =>
    intro v h L hv hv1 hl E P hQ
    have F := scE_FC E F0
    have ek := ofN_toInt (n := v) (by omega)
    refine g_iload (i := 4) rfl rfl ?_
    refine g_aload_n (i := 1) rfl rfl ?_
    refine g_getfield (v := .int (c.1 0)) rfl F.1 (by decide) rfl ?_
    refine g_icmp_gt 66 rfl rfl (fun _ => ?_) (fun hc => absurd hc (by rw [i_lt, hw0, ek]; omega))
    have key := hQ h E (by rw [show bnT3 0 v a b = [] from rfl, List.append_nil]; exact P)
    rw [show v = W + 1 by omega]
    exact key
  | succ f ih =>
    intro v h L hv hv1 hl E P hQ
    have F := scE_FC E F0
    have ek := ofN_toInt (n := v) (by omega)
    obtain ⟨B, fc, ff, hS, -⟩ := id P
    rw [show bnT3 (f + 1) v a b = (2000 + 100 * a + 10 * b + v) :: bnT3 f (v + 1) a b from rfl] at hl hQ
    have ea := ofN_toInt (n := a) (by omega)
    have eb := ofN_toInt (n := b) (by omega)
    have hl5 := hl
    rw [List.length_cons] at hl5
    refine g_iload (i := 4) rfl rfl ?_
    refine g_aload_n (i := 1) rfl rfl ?_
    refine g_getfield (v := .int (c.1 0)) rfl F.1 (by decide) rfl ?_
    refine g_icmp_gt 66 rfl rfl (fun hc => absurd hc (by rw [i_lt, hw0, ek]; omega)) (fun _ => ?_)
    refine g_aload_n (i := 0) rfl rfl ?_
    refine g_sipush (n := 2000) rfl ?_
    refine g_bipush (n := 100) rfl ?_
    refine g_iload_n (i := 2) rfl rfl ?_
    have k_1 : ((Int8.ofInt 100).toInt32).toInt = 100 := rfl
    refine g_imul rfl ?_
    have t_2 : (((Int8.ofInt 100).toInt32 * (Int32.ofNat a))).toInt = ((100 * a : Nat) : Int) := n_mul (X := 100) (Y := a) (show _ = ((100 : Nat) : Int) from k_1) (show _ = ((a : Nat) : Int) from ea) (by omega)
    have k_3 : ((Int16.ofInt 2000).toInt32).toInt = 2000 := rfl
    refine g_iadd rfl ?_
    have t_4 : ((Int16.ofInt 2000).toInt32 + ((Int8.ofInt 100).toInt32 * (Int32.ofNat a))).toInt = ((2000 + 100 * a : Nat) : Int) := by rw [i_add (by rw [k_3, t_2]; omega) (by rw [k_3, t_2]; omega), k_3, t_2]; omega
    refine g_bipush (n := 10) rfl ?_
    refine g_iload_n (i := 3) rfl rfl ?_
    have k_5 : ((Int8.ofInt 10).toInt32).toInt = 10 := rfl
    refine g_imul rfl ?_
    have t_6 : (((Int8.ofInt 10).toInt32 * (Int32.ofNat b))).toInt = ((10 * b : Nat) : Int) := n_mul (X := 10) (Y := b) (show _ = ((10 : Nat) : Int) from k_5) (show _ = ((b : Nat) : Int) from eb) (by omega)
    refine g_iadd rfl ?_
    have t_7 : (((Int16.ofInt 2000).toInt32 + ((Int8.ofInt 100).toInt32 * (Int32.ofNat a))) + ((Int8.ofInt 10).toInt32 * (Int32.ofNat b))).toInt = ((2000 + 100 * a + 10 * b : Nat) : Int) := by rw [i_add (by rw [t_4, t_6]; omega) (by rw [t_4, t_6]; omega), t_4, t_6]; omega
    refine g_iload (i := 4) rfl rfl ?_
    refine g_iadd rfl ?_
    have t_8 : ((((Int16.ofInt 2000).toInt32 + ((Int8.ofInt 100).toInt32 * (Int32.ofNat a))) + ((Int8.ofInt 10).toInt32 * (Int32.ofNat b))) + (Int32.ofNat v)).toInt = ((2000 + 100 * a + 10 * b + v : Nat) : Int) := by rw [i_add (by rw [t_7, ek]; omega) (by rw [t_7, ek]; omega), t_7, ek]; omega
    refine g_aload_n (i := 1) rfl rfl ?_
    refine g_iload_n (i := 2) rfl rfl ?_
    refine g_iload_n (i := 3) rfl rfl ?_
    refine g_iload (i := 4) rfl rfl ?_
    refine g_virt3 (Qc := fun r h' => h' = h ∧ r = some (.long (benS W (W * H) (a) (b) (v)))) rfl (by decide) rfl F.1 rfl (Nat.le_of_ble_eq_true rfl) (s_bent (by omega) F g ea eb ek (by omega)) (fun r h hq9 => ?_)
    obtain ⟨rfl, rfl⟩ := hq9
    have hadd := s_addCut (d := d) (C := 2000 + 100 * a + 10 * b + v) (x := ((((Int16.ofInt 2000).toInt32 + ((Int8.ofInt 100).toInt32 * (Int32.ofNat a))) + ((Int8.ofInt 10).toInt32 * (Int32.ofNat b))) + (Int32.ofNat v))) (l := (benS W (W * H) (a) (b) (v))) (by omega) P (by omega) (of_b (show (((((Int16.ofInt 2000).toInt32 + ((Int8.ofInt 100).toInt32 * (Int32.ofNat a))) + ((Int8.ofInt 10).toInt32 * (Int32.ofNat b))) + (Int32.ofNat v))).toInt = ((2000 + 100 * a + 10 * b + v : Nat) : Int) by rw [t_8] <;> omega) (by omega)) (fs_bn (by omega) (by omega) (by omega)).symm
    refine g_virt2 (Qc := fun r h' => r = none ∧ lcP h' W (W * H) (L ++ [2000 + 100 * a + 10 * b + v]) B0 S1 S2 ∧ scE h h') rfl (by decide) rfl hS rfl (Nat.le_of_ble_eq_true rfl) (hadd) (fun r h9 hq9 => ?_)
    obtain ⟨rfl, P1, E1⟩ := hq9
    refine g_iinc (i := 4) (L1 := [some (.ref 38), some (.ref 5), some (.int (Int32.ofNat a)), some (.int (Int32.ofNat b)), some (.int ((Int32.ofNat v) + Int32.ofInt 1))]) rfl rfl rfl ?_
    rw [ofN_add (by omega)]
    refine g_goto 23 rfl rfl ?_
    exact ih (v + 1) h9 (L ++ [2000 + 100 * a + 10 * b + v]) (by omega) (by omega) (by rw [List.length_append]; rw [List.length_cons] at hl; show L.length + 1 + _ ≤ 644; omega) (scE_tr E E1) P1 (fun h' e p => hQ h' e (by rw [List.append_assoc] at p; exact p))
theorem s_lc_bn2 {d : Nat} {h0 : sHp} {c : CF} {W H : Nat} {B0 : Nat → Int32} {S1 S2 : Int64} {Q : Option Value → sHp → Prop} (hd : 4 ≤ d) (g : gdF c W H) (F0 : FC h0 5 c) {a : Nat} (ha : a ≤ 8) : ∀ (f v : Nat) (o4 : Option Value) (h : sHp) (L : List Nat), v + f = H → 1 ≤ v → L.length + (bnT2 W f v a).length ≤ 644 → scE h0 h → lcP h W (W * H) L B0 S1 S2 → (∀ (h' : sHp) (o4 : Option Value), scE h0 h' → lcP h' W (W * H) (L ++ bnT2 W f v a) B0 S1 S2 → sGo none 93 d 72 [some (.ref 38), some (.ref 5), some (.int (Int32.ofNat a)), some (.int (Int32.ofNat H)), o4] [] h' Q) → sGo none 93 d 12 [some (.ref 38), some (.ref 5), some (.int (Int32.ofNat a)), some (.int (Int32.ofNat v)), o4] [] h Q := by
  have gd := g
  obtain ⟨gw, gh, w2, w8, h2, h8, -⟩ := gd
  have hw0 : (c.1 0).toInt = ((W : Nat) : Int) := by rw [gw]; exact ofN_toInt (by omega)
  have hw1 : (c.1 1).toInt = ((H : Nat) : Int) := by rw [gh]; exact ofN_toInt (by omega)
  have hn := gdF_n g
  intro f
  induction f with
  | zero =>
    intro v o4 h L hv hv1 hl E P hQ
    have F := scE_FC E F0
    have ek := ofN_toInt (n := v) (by omega)
    refine g_iload_n (i := 3) rfl rfl ?_
    refine g_aload_n (i := 1) rfl rfl ?_
    refine g_getfield (v := .int (c.1 1)) rfl F.1 (by decide) rfl ?_
    refine g_icmp_ge 72 rfl rfl (fun _ => ?_) (fun hc => absurd hc (by rw [i_le, hw1, ek]; omega))
    have key := hQ h o4 E (by rw [show bnT2 W 0 v a = [] from rfl, List.append_nil]; exact P)
    rw [show v = H by omega]
    exact key
  | succ f ih =>
    intro v o4 h L hv hv1 hl E P hQ
    have F := scE_FC E F0
    have ek := ofN_toInt (n := v) (by omega)
    obtain ⟨B, fc, ff, hS, -⟩ := id P
    rw [show bnT2 W (f + 1) v a = bnT3 (W + 1) 0 a v ++ bnT2 W f (v + 1) a from rfl] at hl hQ
    have ea := ofN_toInt (n := a) (by omega)
    refine g_iload_n (i := 3) rfl rfl ?_
    refine g_aload_n (i := 1) rfl rfl ?_
    refine g_getfield (v := .int (c.1 1)) rfl F.1 (by decide) rfl ?_
    refine g_icmp_ge 72 rfl rfl (fun hc => absurd hc (by rw [i_le, hw1, ek]; omega)) (fun _ => ?_)
    refine g_iconst (n := 0) rfl ?_
    refine g_istore (i := 4) (L1 := [some (.ref 38), some (.ref 5), some (.int (Int32.ofNat a)), some (.int (Int32.ofNat v)), some (.int (Int32.ofInt 0))]) rfl (Nat.le_of_ble_eq_true rfl) rfl ?_
    have hl2 := hl
    rw [List.length_append] at hl2
    refine s_lc_bn3 hd g F0 ha (show v ≤ 8 by omega) (W + 1) 0 h L (by omega) trivial (by omega) E P (fun h2 E2 P2 => ?_)
    refine g_iinc (i := 3) (L1 := [some (.ref 38), some (.ref 5), some (.int (Int32.ofNat a)), some (.int ((Int32.ofNat v) + Int32.ofInt 1)), some (.int (Int32.ofNat (W + 1)))]) rfl rfl rfl ?_
    rw [ofN_add (by omega)]
    refine g_goto 12 rfl rfl ?_
    exact ih (v + 1) _ h2 (L ++ bnT3 (W + 1) 0 a v) (by omega) (by omega) (by rw [List.length_append]; omega) E2 P2 (fun h' x0 e p => hQ h' x0 e (by rw [List.append_assoc] at p; exact p))
theorem s_lc_bn1 {d : Nat} {h0 : sHp} {c : CF} {W H : Nat} {B0 : Nat → Int32} {S1 S2 : Int64} {Q : Option Value → sHp → Prop} (hd : 4 ≤ d) (g : gdF c W H) (F0 : FC h0 5 c) : ∀ (f v : Nat) (o3 : Option Value) (o4 : Option Value) (h : sHp) (L : List Nat), v + f = W + 1 → True → L.length + (bnT1 W H f v).length ≤ 644 → scE h0 h → lcP h W (W * H) L B0 S1 S2 → (∀ (h' : sHp) (o3 : Option Value) (o4 : Option Value), scE h0 h' → lcP h' W (W * H) (L ++ bnT1 W H f v) B0 S1 S2 → sGo none 93 d 78 [some (.ref 38), some (.ref 5), some (.int (Int32.ofNat (W + 1))), o3, o4] [] h' Q) → sGo none 93 d 2 [some (.ref 38), some (.ref 5), some (.int (Int32.ofNat v)), o3, o4] [] h Q := by
  have gd := g
  obtain ⟨gw, gh, w2, w8, h2, h8, -⟩ := gd
  have hw0 : (c.1 0).toInt = ((W : Nat) : Int) := by rw [gw]; exact ofN_toInt (by omega)
  have hw1 : (c.1 1).toInt = ((H : Nat) : Int) := by rw [gh]; exact ofN_toInt (by omega)
  have hn := gdF_n g
  intro f
  induction f with
  | zero =>
    intro v o3 o4 h L hv hv1 hl E P hQ
    have F := scE_FC E F0
    have ek := ofN_toInt (n := v) (by omega)
    refine g_iload_n (i := 2) rfl rfl ?_
    refine g_aload_n (i := 1) rfl rfl ?_
    refine g_getfield (v := .int (c.1 0)) rfl F.1 (by decide) rfl ?_
    refine g_icmp_gt 78 rfl rfl (fun _ => ?_) (fun hc => absurd hc (by rw [i_lt, hw0, ek]; omega))
    have key := hQ h o3 o4 E (by rw [show bnT1 W H 0 v = [] from rfl, List.append_nil]; exact P)
    rw [show v = W + 1 by omega]
    exact key
  | succ f ih =>
    intro v o3 o4 h L hv hv1 hl E P hQ
    have F := scE_FC E F0
    have ek := ofN_toInt (n := v) (by omega)
    obtain ⟨B, fc, ff, hS, -⟩ := id P
    rw [show bnT1 W H (f + 1) v = bnT2 W (H - 1) 1 v ++ bnT1 W H f (v + 1) from rfl] at hl hQ
    refine g_iload_n (i := 2) rfl rfl ?_
    refine g_aload_n (i := 1) rfl rfl ?_
    refine g_getfield (v := .int (c.1 0)) rfl F.1 (by decide) rfl ?_
    refine g_icmp_gt 78 rfl rfl (fun hc => absurd hc (by rw [i_lt, hw0, ek]; omega)) (fun _ => ?_)
    refine g_iconst (n := 1) rfl ?_
    refine g_istore_n (i := 3) (L1 := [some (.ref 38), some (.ref 5), some (.int (Int32.ofNat v)), some (.int (Int32.ofInt 1)), o4]) rfl (Nat.le_of_ble_eq_true rfl) rfl ?_
    have hl2 := hl
    rw [List.length_append] at hl2
    refine s_lc_bn2 hd g F0 (show v ≤ 8 by omega) (H - 1) 1 _ h L (by omega) (by omega) (by omega) E P (fun h2 o5 E2 P2 => ?_)
    refine g_iinc (i := 2) (L1 := [some (.ref 38), some (.ref 5), some (.int ((Int32.ofNat v) + Int32.ofInt 1)), some (.int (Int32.ofNat H)), o5]) rfl rfl rfl ?_
    rw [ofN_add (by omega)]
    refine g_goto 2 rfl rfl ?_
    exact ih (v + 1) _ _ h2 (L ++ bnT2 W (H - 1) 1 v) (by omega) (by omega) (by rw [List.length_append]; omega) E2 P2 (fun h' x0 x1 e p => hQ h' x0 x1 e (by rw [List.append_assoc] at p; exact p))
theorem s_lc_fr2 {d : Nat} {h0 : sHp} {c : CF} {W H : Nat} {B0 : Nat → Int32} {S1 S2 : Int64} {Q : Option Value → sHp → Prop} (hd : 4 ≤ d) (g : gdF c W H) (F0 : FC h0 5 c) {a : Nat} (ha : a ≤ 8) : ∀ (f v : Nat) (h : sHp) (L : List Nat), v + f = H + 1 → 1 ≤ v → L.length + (frT2 W H f v a).length ≤ 644 → scE h0 h → lcP h W (W * H) L B0 S1 S2 → (∀ (h' : sHp), scE h0 h' → lcP h' W (W * H) (L ++ frT2 W H f v a) B0 S1 S2 → sGo none 94 d 65 [some (.ref 38), some (.ref 5), some (.int (Int32.ofNat a)), some (.int (Int32.ofNat (H + 1)))] [] h' Q) → sGo none 94 d 12 [some (.ref 38), some (.ref 5), some (.int (Int32.ofNat a)), some (.int (Int32.ofNat v))] [] h Q := by
  have gd := g
  obtain ⟨gw, gh, w2, w8, h2, h8, -⟩ := gd
  have hw0 : (c.1 0).toInt = ((W : Nat) : Int) := by rw [gw]; exact ofN_toInt (by omega)
  have hw1 : (c.1 1).toInt = ((H : Nat) : Int) := by rw [gh]; exact ofN_toInt (by omega)
  have hn := gdF_n g
  intro f
  induction f with
  | zero =>
    intro v h L hv hv1 hl E P hQ
    have F := scE_FC E F0
    have ek := ofN_toInt (n := v) (by omega)
    refine g_iload_n (i := 3) rfl rfl ?_
    refine g_aload_n (i := 1) rfl rfl ?_
    refine g_getfield (v := .int (c.1 1)) rfl F.1 (by decide) rfl ?_
    refine g_icmp_gt 65 rfl rfl (fun _ => ?_) (fun hc => absurd hc (by rw [i_lt, hw1, ek]; omega))
    have key := hQ h E (by rw [show frT2 W H 0 v a = [] from rfl, List.append_nil]; exact P)
    rw [show v = H + 1 by omega]
    exact key
  | succ f ih =>
    intro v h L hv hv1 hl E P hQ
    have F := scE_FC E F0
    have ek := ofN_toInt (n := v) (by omega)
    obtain ⟨B, fc, ff, hS, -⟩ := id P
    rw [show frT2 W H (f + 1) v a = (if a < W ∨ v < H then [5000 + 100 * a + 10 * v] else []) ++ frT2 W H f (v + 1) a from rfl] at hl hQ
    have ea := ofN_toInt (n := a) (by omega)
    refine g_iload_n (i := 3) rfl rfl ?_
    refine g_aload_n (i := 1) rfl rfl ?_
    refine g_getfield (v := .int (c.1 1)) rfl F.1 (by decide) rfl ?_
    refine g_icmp_gt 65 rfl rfl (fun hc => absurd hc (by rw [i_lt, hw1, ek]; omega)) (fun _ => ?_)
    refine g_iload_n (i := 2) rfl rfl ?_
    refine g_aload_n (i := 1) rfl rfl ?_
    refine g_getfield (v := .int (c.1 0)) rfl F.1 (by decide) rfl ?_
    refine g_icmp_lt 36 rfl rfl (fun c_1 => ?_) (fun c_1 => ?_)
    · skip
      rw [i_lt, ea, hw0] at c_1
      refine g_aload_n (i := 0) rfl rfl ?_
      refine g_sipush (n := 5000) rfl ?_
      refine g_bipush (n := 100) rfl ?_
      refine g_iload_n (i := 2) rfl rfl ?_
      have k_2 : ((Int8.ofInt 100).toInt32).toInt = 100 := rfl
      refine g_imul rfl ?_
      have t_3 : (((Int8.ofInt 100).toInt32 * (Int32.ofNat a))).toInt = ((100 * a : Nat) : Int) := n_mul (X := 100) (Y := a) (show _ = ((100 : Nat) : Int) from k_2) (show _ = ((a : Nat) : Int) from ea) (by omega)
      have k_4 : ((Int16.ofInt 5000).toInt32).toInt = 5000 := rfl
      refine g_iadd rfl ?_
      have t_5 : ((Int16.ofInt 5000).toInt32 + ((Int8.ofInt 100).toInt32 * (Int32.ofNat a))).toInt = ((5000 + 100 * a : Nat) : Int) := by rw [i_add (by rw [k_4, t_3]; omega) (by rw [k_4, t_3]; omega), k_4, t_3]; omega
      refine g_bipush (n := 10) rfl ?_
      refine g_iload_n (i := 3) rfl rfl ?_
      have k_6 : ((Int8.ofInt 10).toInt32).toInt = 10 := rfl
      refine g_imul rfl ?_
      have t_7 : (((Int8.ofInt 10).toInt32 * (Int32.ofNat v))).toInt = ((10 * v : Nat) : Int) := n_mul (X := 10) (Y := v) (show _ = ((10 : Nat) : Int) from k_6) (show _ = ((v : Nat) : Int) from ek) (by omega)
      refine g_iadd rfl ?_
      have t_8 : (((Int16.ofInt 5000).toInt32 + ((Int8.ofInt 100).toInt32 * (Int32.ofNat a))) + ((Int8.ofInt 10).toInt32 * (Int32.ofNat v))).toInt = ((5000 + 100 * a + 10 * v : Nat) : Int) := by rw [i_add (by rw [t_5, t_7]; omega) (by rw [t_5, t_7]; omega), t_5, t_7]; omega
      refine g_aload_n (i := 1) rfl rfl ?_
      refine g_iload_n (i := 2) rfl rfl ?_
      refine g_iload_n (i := 3) rfl rfl ?_
      refine g_virt2 (Qc := fun r h' => h' = h ∧ r = some (.long (corS W (W * H) (a) (v)))) rfl (by decide) rfl F.1 rfl (Nat.le_of_ble_eq_true rfl) (s_corner (by omega) F g ea ek (by omega)) (fun r h hq9 => ?_)
      obtain ⟨rfl, rfl⟩ := hq9
      have hl3 := hl
      rw [if_pos (by omega), List.length_append] at hl3
      have e1 : [5000 + 100 * a + 10 * v].length = 1 := rfl
      have hadd := s_addCut (d := d) (C := 5000 + 100 * a + 10 * v) (x := (((Int16.ofInt 5000).toInt32 + ((Int8.ofInt 100).toInt32 * (Int32.ofNat a))) + ((Int8.ofInt 10).toInt32 * (Int32.ofNat v)))) (l := (corS W (W * H) (a) (v))) (by omega) P (by omega) (of_b (show ((((Int16.ofInt 5000).toInt32 + ((Int8.ofInt 100).toInt32 * (Int32.ofNat a))) + ((Int8.ofInt 10).toInt32 * (Int32.ofNat v)))).toInt = ((5000 + 100 * a + 10 * v : Nat) : Int) by rw [t_8] <;> omega) (by omega)) (fs_fr (by omega) (by omega)).symm
      refine g_virt2 (Qc := fun r h' => r = none ∧ lcP h' W (W * H) (L ++ [5000 + 100 * a + 10 * v]) B0 S1 S2 ∧ scE h h') rfl (by decide) rfl hS rfl (Nat.le_of_ble_eq_true rfl) (hadd) (fun r h9 hq9 => ?_)
      obtain ⟨rfl, P1, E1⟩ := hq9
      refine g_iinc (i := 3) (L1 := [some (.ref 38), some (.ref 5), some (.int (Int32.ofNat a)), some (.int ((Int32.ofNat v) + Int32.ofInt 1))]) rfl rfl rfl ?_
      rw [ofN_add (by omega)]
      refine g_goto 12 rfl rfl ?_
      rw [if_pos (by omega)] at hl hQ
      exact ih (v + 1) h9 (L ++ [5000 + 100 * a + 10 * v]) (by omega) (by omega) (by rw [List.length_append]; rw [List.length_append] at hl; show L.length + 1 + _ ≤ 644; have e1 : [5000 + 100 * a + 10 * v].length = 1 := rfl; omega) (scE_tr E E1) P1 (fun h' e p => hQ h' e (by rw [List.append_assoc] at p; exact p))
    · skip
      rw [i_lt, ea, hw0] at c_1
      refine g_iload_n (i := 3) rfl rfl ?_
      refine g_aload_n (i := 1) rfl rfl ?_
      refine g_getfield (v := .int (c.1 1)) rfl F.1 (by decide) rfl ?_
      refine g_icmp_ge 59 rfl rfl (fun c_9 => ?_) (fun c_9 => ?_)
      · skip
        rw [i_le, ek, hw1] at c_9
        refine g_iinc (i := 3) (L1 := [some (.ref 38), some (.ref 5), some (.int (Int32.ofNat a)), some (.int ((Int32.ofNat v) + Int32.ofInt 1))]) rfl rfl rfl ?_
        rw [ofN_add (by omega)]
        refine g_goto 12 rfl rfl ?_
        rw [if_neg (by omega), List.nil_append] at hl hQ
        exact ih (v + 1) h L (by omega) (by omega) (by omega) E P hQ
      · skip
        rw [i_le, ek, hw1] at c_9
        refine g_aload_n (i := 0) rfl rfl ?_
        refine g_sipush (n := 5000) rfl ?_
        refine g_bipush (n := 100) rfl ?_
        refine g_iload_n (i := 2) rfl rfl ?_
        have k_10 : ((Int8.ofInt 100).toInt32).toInt = 100 := rfl
        refine g_imul rfl ?_
        have t_11 : (((Int8.ofInt 100).toInt32 * (Int32.ofNat a))).toInt = ((100 * a : Nat) : Int) := n_mul (X := 100) (Y := a) (show _ = ((100 : Nat) : Int) from k_10) (show _ = ((a : Nat) : Int) from ea) (by omega)
        have k_12 : ((Int16.ofInt 5000).toInt32).toInt = 5000 := rfl
        refine g_iadd rfl ?_
        have t_13 : ((Int16.ofInt 5000).toInt32 + ((Int8.ofInt 100).toInt32 * (Int32.ofNat a))).toInt = ((5000 + 100 * a : Nat) : Int) := by rw [i_add (by rw [k_12, t_11]; omega) (by rw [k_12, t_11]; omega), k_12, t_11]; omega
        refine g_bipush (n := 10) rfl ?_
        refine g_iload_n (i := 3) rfl rfl ?_
        have k_14 : ((Int8.ofInt 10).toInt32).toInt = 10 := rfl
        refine g_imul rfl ?_
        have t_15 : (((Int8.ofInt 10).toInt32 * (Int32.ofNat v))).toInt = ((10 * v : Nat) : Int) := n_mul (X := 10) (Y := v) (show _ = ((10 : Nat) : Int) from k_14) (show _ = ((v : Nat) : Int) from ek) (by omega)
        refine g_iadd rfl ?_
        have t_16 : (((Int16.ofInt 5000).toInt32 + ((Int8.ofInt 100).toInt32 * (Int32.ofNat a))) + ((Int8.ofInt 10).toInt32 * (Int32.ofNat v))).toInt = ((5000 + 100 * a + 10 * v : Nat) : Int) := by rw [i_add (by rw [t_13, t_15]; omega) (by rw [t_13, t_15]; omega), t_13, t_15]; omega
        refine g_aload_n (i := 1) rfl rfl ?_
        refine g_iload_n (i := 2) rfl rfl ?_
        refine g_iload_n (i := 3) rfl rfl ?_
        refine g_virt2 (Qc := fun r h' => h' = h ∧ r = some (.long (corS W (W * H) (a) (v)))) rfl (by decide) rfl F.1 rfl (Nat.le_of_ble_eq_true rfl) (s_corner (by omega) F g ea ek (by omega)) (fun r h hq9 => ?_)
        obtain ⟨rfl, rfl⟩ := hq9
        have hl3 := hl
        rw [if_pos (by omega), List.length_append] at hl3
        have e1 : [5000 + 100 * a + 10 * v].length = 1 := rfl
        have hadd := s_addCut (d := d) (C := 5000 + 100 * a + 10 * v) (x := (((Int16.ofInt 5000).toInt32 + ((Int8.ofInt 100).toInt32 * (Int32.ofNat a))) + ((Int8.ofInt 10).toInt32 * (Int32.ofNat v)))) (l := (corS W (W * H) (a) (v))) (by omega) P (by omega) (of_b (show ((((Int16.ofInt 5000).toInt32 + ((Int8.ofInt 100).toInt32 * (Int32.ofNat a))) + ((Int8.ofInt 10).toInt32 * (Int32.ofNat v)))).toInt = ((5000 + 100 * a + 10 * v : Nat) : Int) by rw [t_16] <;> omega) (by omega)) (fs_fr (by omega) (by omega)).symm
        refine g_virt2 (Qc := fun r h' => r = none ∧ lcP h' W (W * H) (L ++ [5000 + 100 * a + 10 * v]) B0 S1 S2 ∧ scE h h') rfl (by decide) rfl hS rfl (Nat.le_of_ble_eq_true rfl) (hadd) (fun r h9 hq9 => ?_)
        obtain ⟨rfl, P1, E1⟩ := hq9
        refine g_iinc (i := 3) (L1 := [some (.ref 38), some (.ref 5), some (.int (Int32.ofNat a)), some (.int ((Int32.ofNat v) + Int32.ofInt 1))]) rfl rfl rfl ?_
        rw [ofN_add (by omega)]
        refine g_goto 12 rfl rfl ?_
        rw [if_pos (by omega)] at hl hQ
        exact ih (v + 1) h9 (L ++ [5000 + 100 * a + 10 * v]) (by omega) (by omega) (by rw [List.length_append]; rw [List.length_append] at hl; show L.length + 1 + _ ≤ 644; have e1 : [5000 + 100 * a + 10 * v].length = 1 := rfl; omega) (scE_tr E E1) P1 (fun h' e p => hQ h' e (by rw [List.append_assoc] at p; exact p))
theorem s_lc_fr1 {d : Nat} {h0 : sHp} {c : CF} {W H : Nat} {B0 : Nat → Int32} {S1 S2 : Int64} {Q : Option Value → sHp → Prop} (hd : 4 ≤ d) (g : gdF c W H) (F0 : FC h0 5 c) : ∀ (f v : Nat) (o3 : Option Value) (h : sHp) (L : List Nat), v + f = W + 1 → 1 ≤ v → L.length + (frT1 W H f v).length ≤ 644 → scE h0 h → lcP h W (W * H) L B0 S1 S2 → (∀ (h' : sHp) (o3 : Option Value), scE h0 h' → lcP h' W (W * H) (L ++ frT1 W H f v) B0 S1 S2 → sGo none 94 d 71 [some (.ref 38), some (.ref 5), some (.int (Int32.ofNat (W + 1))), o3] [] h' Q) → sGo none 94 d 2 [some (.ref 38), some (.ref 5), some (.int (Int32.ofNat v)), o3] [] h Q := by
  have gd := g
  obtain ⟨gw, gh, w2, w8, h2, h8, -⟩ := gd
  have hw0 : (c.1 0).toInt = ((W : Nat) : Int) := by rw [gw]; exact ofN_toInt (by omega)
  have hw1 : (c.1 1).toInt = ((H : Nat) : Int) := by rw [gh]; exact ofN_toInt (by omega)
  have hn := gdF_n g
  intro f
  induction f with
  | zero =>
    intro v o3 h L hv hv1 hl E P hQ
    have F := scE_FC E F0
    have ek := ofN_toInt (n := v) (by omega)
    refine g_iload_n (i := 2) rfl rfl ?_
    refine g_aload_n (i := 1) rfl rfl ?_
    refine g_getfield (v := .int (c.1 0)) rfl F.1 (by decide) rfl ?_
    refine g_icmp_gt 71 rfl rfl (fun _ => ?_) (fun hc => absurd hc (by rw [i_lt, hw0, ek]; omega))
    have key := hQ h o3 E (by rw [show frT1 W H 0 v = [] from rfl, List.append_nil]; exact P)
    rw [show v = W + 1 by omega]
    exact key
  | succ f ih =>
    intro v o3 h L hv hv1 hl E P hQ
    have F := scE_FC E F0
    have ek := ofN_toInt (n := v) (by omega)
    obtain ⟨B, fc, ff, hS, -⟩ := id P
    rw [show frT1 W H (f + 1) v = frT2 W H H 1 v ++ frT1 W H f (v + 1) from rfl] at hl hQ
    refine g_iload_n (i := 2) rfl rfl ?_
    refine g_aload_n (i := 1) rfl rfl ?_
    refine g_getfield (v := .int (c.1 0)) rfl F.1 (by decide) rfl ?_
    refine g_icmp_gt 71 rfl rfl (fun hc => absurd hc (by rw [i_lt, hw0, ek]; omega)) (fun _ => ?_)
    refine g_iconst (n := 1) rfl ?_
    refine g_istore_n (i := 3) (L1 := [some (.ref 38), some (.ref 5), some (.int (Int32.ofNat v)), some (.int (Int32.ofInt 1))]) rfl (Nat.le_of_ble_eq_true rfl) rfl ?_
    have hl2 := hl
    rw [List.length_append] at hl2
    refine s_lc_fr2 hd g F0 (show v ≤ 8 by omega) H 1 h L (by omega) (by omega) (by omega) E P (fun h2 E2 P2 => ?_)
    refine g_iinc (i := 2) (L1 := [some (.ref 38), some (.ref 5), some (.int ((Int32.ofNat v) + Int32.ofInt 1)), some (.int (Int32.ofNat (H + 1)))]) rfl rfl rfl ?_
    rw [ofN_add (by omega)]
    refine g_goto 2 rfl rfl ?_
    exact ih (v + 1) _ h2 (L ++ frT2 W H H 1 v) (by omega) (by omega) (by rw [List.length_append]; omega) E2 P2 (fun h' x0 e p => hQ h' x0 e (by rw [List.append_assoc] at p; exact p))
theorem s_addBent {d : Nat} {h : sHp} {c : CF} {W H : Nat} {L : List Nat} {B0 : Nat → Int32} {S1 S2 : Int64} (hd : 5 ≤ d) (F : FC h 5 c) (g : gdF c W H) (hl : L.length + (bnT1 W H (W + 1) 0).length ≤ 644) (P : lcP h W (W * H) L B0 S1 S2) : sDo d 93 [.ref 38, .ref 5] h (fun r h' => r = none ∧ lcP h' W (W * H) (L ++ bnT1 W H (W + 1) 0) B0 S1 S2 ∧ scE h h') := by
  have g' := g
  obtain ⟨-, -, w2, -⟩ := g'
  refine sDo_of1 (nL := 5) (L := [some (.ref 38), some (.ref 5), none, none, none]) (by omega) rfl rfl ?_
  refine g_iconst (n := 0) rfl ?_
  refine g_istore_n (i := 2) (L1 := [some (.ref 38), some (.ref 5), some (.int (Int32.ofInt 0)), none, none]) rfl (Nat.le_of_ble_eq_true rfl) rfl ?_
  refine s_lc_bn1 (d := d - 1) (by omega) g F (W + 1) 0 none none h L (by omega) trivial hl scE_rfl P (fun h2 o3 o4 E2 P2 => ?_)
  refine g_return rfl rfl ?_
  exact ⟨rfl, P2, E2⟩
theorem s_addFrom {d : Nat} {h : sHp} {c : CF} {W H : Nat} {L : List Nat} {B0 : Nat → Int32} {S1 S2 : Int64} (hd : 5 ≤ d) (F : FC h 5 c) (g : gdF c W H) (hl : L.length + (frT1 W H W 1).length ≤ 644) (P : lcP h W (W * H) L B0 S1 S2) : sDo d 94 [.ref 38, .ref 5] h (fun r h' => r = none ∧ lcP h' W (W * H) (L ++ frT1 W H W 1) B0 S1 S2 ∧ scE h h') := by
  have g' := g
  obtain ⟨-, -, w2, -⟩ := g'
  refine sDo_of1 (nL := 4) (L := [some (.ref 38), some (.ref 5), none, none]) (by omega) rfl rfl ?_
  refine g_iconst (n := 1) rfl ?_
  refine g_istore_n (i := 2) (L1 := [some (.ref 38), some (.ref 5), some (.int (Int32.ofInt 1)), none]) rfl (Nat.le_of_ble_eq_true rfl) rfl ?_
  refine s_lc_fr1 (d := d - 1) (by omega) g F W 1 none h L (by omega) (by omega) hl scE_rfl P (fun h2 o3 E2 P2 => ?_)
  refine g_return rfl rfl ?_
  exact ⟨rfl, P2, E2⟩
theorem s_listCuts {d : Nat} {h : sHp} {c : CF} {W H : Nat} {B : Nat → Int32} {S1 S2 : Int64} {fc : Nat → Int32} {ff : Nat → Int64} {x2 x3 : Int32} (b4 b32 : Bool) (hd : 6 ≤ d) (F : FC h 5 c) (g : gdF c W H) (hS : h[38]? = some (sO B S1 S2)) (h39 : h[39]? = some (.inl (0, 644, .inl fc))) (h40 : h[40]? = some (.inl (1, 644, .inr (.inl ff)))) (e4 : b4 = decide (¬ x2 = 0)) (e32 : b32 = decide (¬ x3 = 0)) : sDo d 92 [.ref 38, .ref 5, .int x2, .int x3] h (fun r h' => r = none ∧ lcP h' W (W * H) (lsT W H b4 b32) B S1 S2 ∧ scE h h') := by
  have g' := g
  obtain ⟨-, -, w2, w8, h2, h8, -⟩ := g'
  have hls := ls_le w8 h8
  have P0 : lcP (h.set 38 (sO (upd B 6 (Int32.ofInt 0)) S1 S2)) W (W * H) [] B S1 S2 := ⟨_, fc, ff, s_set_eq hS, fun j hj => u_ne hj, u_at, by rw [s_set_ne (by decide)]; exact h39, by rw [s_set_ne (by decide)]; exact h40, (fun i c hi => by cases hi), (fun i c hi => by cases hi)⟩
  have E0 : scE h (h.set 38 (sO (upd B 6 (Int32.ofInt 0)) S1 S2)) := scE_set scE_rfl (by decide)
  unfold lsT
  refine sDo_of1 (nL := 5) (L := [some (.ref 38), some (.ref 5), some (.int x2), some (.int x3), none]) (by omega) rfl rfl ?_
  refine g_aload_n (i := 0) rfl rfl ?_
  refine g_iconst (n := 0) rfl ?_
  refine g_putfield (h1 := h.set 38 (sO (upd B 6 (Int32.ofInt 0)) S1 S2)) rfl hS (by decide) (Nat.le_of_ble_eq_true rfl) rfl rfl ?_
  refine g_iconst (n := 1) rfl ?_
  refine g_istore (i := 4) (L1 := [some (.ref 38), some (.ref 5), some (.int x2), some (.int x3), some (.int (Int32.ofInt 1))]) rfl (Nat.le_of_ble_eq_true rfl) rfl ?_
  refine s_lc_str (d := d - 1) (by omega) g F (W - 1) 1 _ [] (by omega) (by omega) (by show 0 + _ ≤ 644; omega) E0 P0 (fun h2 E2 P2 => ?_)
  rw [List.nil_append] at P2
  refine g_iload_n (i := 2) rfl rfl ?_
  refine g_if_eq 51 rfl rfl (fun c_1 => ?_) (fun c_1 => ?_)
  · skip
    refine g_iconst (n := 1) rfl ?_
    refine g_istore (i := 4) (L1 := [some (.ref 38), some (.ref 5), some (.int x2), some (.int x3), some (.int (Int32.ofInt 1))]) rfl (Nat.le_of_ble_eq_true rfl) rfl ?_
    rw [if_neg (by rw [e4, decide_eq_true_eq]; exact fun z => z c_1), List.nil_append]
    have F3 := scE_FC E2 F
    refine s_lc_al (d := d - 1) (by omega) g F (H - 1) 1 _ (strT (W - 1) 1) (by omega) (by omega) (by omega) E2 P2 (fun h4 E4 P4 => ?_)
    refine g_iload_n (i := 3) rfl rfl ?_
    refine g_if_eq 97 rfl rfl (fun c_2 => ?_) (fun c_2 => ?_)
    · skip
      refine g_return rfl rfl ?_
      rw [if_neg (by rw [e32, decide_eq_true_eq]; exact fun z => z c_2), List.append_nil]
      exact ⟨rfl, by simpa only [List.append_assoc] using P4, E4⟩
    · skip
      obtain ⟨B4, fc4, ff4, hS4, -⟩ := id P4
      have F4 := scE_FC E4 F
      refine g_aload_n (i := 0) rfl rfl ?_
      refine g_aload_n (i := 1) rfl rfl ?_
      refine g_virt1 (Qc := fun r h' => r = none ∧ lcP h' W (W * H) ((strT (W - 1) 1 ++ alT (H - 1) 1) ++ frT1 W H W 1) B S1 S2 ∧ scE h4 h') rfl (by decide) rfl hS4 rfl (Nat.le_of_ble_eq_true rfl) (s_addFrom (d := d - 1) (by omega) F4 g (by simp only [List.length_append]; omega) P4) (fun r h5 hq9 => ?_)
      obtain ⟨rfl, P5, E5⟩ := hq9
      refine g_return rfl rfl ?_
      rw [if_pos (by rw [e32, decide_eq_true_eq]; exact c_2)]
      exact ⟨rfl, by simpa only [List.append_assoc] using P5, scE_tr E4 E5⟩
  · skip
    obtain ⟨B2, fc2, ff2, hS2, -⟩ := id P2
    have F2 := scE_FC E2 F
    refine g_aload_n (i := 0) rfl rfl ?_
    refine g_aload_n (i := 1) rfl rfl ?_
    refine g_virt1 (Qc := fun r h' => r = none ∧ lcP h' W (W * H) (strT (W - 1) 1 ++ bnT1 W H (W + 1) 0) B S1 S2 ∧ scE h2 h') rfl (by decide) rfl hS2 rfl (Nat.le_of_ble_eq_true rfl) (s_addBent (d := d - 1) (by omega) F2 g (by omega) P2) (fun r h3 hq9 => ?_)
    obtain ⟨rfl, P3, E3⟩ := hq9
    refine g_iconst (n := 1) rfl ?_
    refine g_istore (i := 4) (L1 := [some (.ref 38), some (.ref 5), some (.int x2), some (.int x3), some (.int (Int32.ofInt 1))]) rfl (Nat.le_of_ble_eq_true rfl) rfl ?_
    rw [if_pos (by rw [e4, decide_eq_true_eq]; exact c_1)]
    refine s_lc_al (d := d - 1) (by omega) g F (H - 1) 1 _ (strT (W - 1) 1 ++ bnT1 W H (W + 1) 0) (by omega) (by omega) (by rw [List.length_append]; omega) (scE_tr E2 E3) P3 (fun h4 E4 P4 => ?_)
    refine g_iload_n (i := 3) rfl rfl ?_
    refine g_if_eq 97 rfl rfl (fun c_3 => ?_) (fun c_3 => ?_)
    · skip
      refine g_return rfl rfl ?_
      rw [if_neg (by rw [e32, decide_eq_true_eq]; exact fun z => z c_3), List.append_nil]
      exact ⟨rfl, by simpa only [List.append_assoc] using P4, E4⟩
    · skip
      obtain ⟨B4, fc4, ff4, hS4, -⟩ := id P4
      have F4 := scE_FC E4 F
      refine g_aload_n (i := 0) rfl rfl ?_
      refine g_aload_n (i := 1) rfl rfl ?_
      refine g_virt1 (Qc := fun r h' => r = none ∧ lcP h' W (W * H) ((strT (W - 1) 1 ++ bnT1 W H (W + 1) 0 ++ alT (H - 1) 1) ++ frT1 W H W 1) B S1 S2 ∧ scE h4 h') rfl (by decide) rfl hS4 rfl (Nat.le_of_ble_eq_true rfl) (s_addFrom (d := d - 1) (by omega) F4 g (by simp only [List.length_append]; omega) P4) (fun r h5 hq9 => ?_)
      obtain ⟨rfl, P5, E5⟩ := hq9
      refine g_return rfl rfl ?_
      rw [if_pos (by rw [e32, decide_eq_true_eq]; exact c_3)]
      exact ⟨rfl, by simpa only [List.append_assoc] using P5, scE_tr E4 E5⟩
end
