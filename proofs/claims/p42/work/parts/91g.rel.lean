/-! ===== the pair of field ===== -/
theorem s_field11n {d : Nat} {h : sHp} {ik tf x b : Int32} {R : Nat → Int32} {B : Nat} (hd : 3 ≤ d) (h0 : h[0]? = some (cO ik tf)) (hR : h[43]? = some (rFc R)) (hb : b.toInt = -(B : Int)) (hB : 1 ≤ B ∧ B ≤ 7) (hno : sDo (d - 1) 161 [.ref 0, .int x] h (fun r h' => h' = h ∧ r = some (.int b))) : sDo d 122 [.ref 0, .int x] h (fun r h' => r = some (.int b) ∧ h' = h.set 43 (rFc (bump R B))) := by
  have hb0 : ¬ b = 0 := fun z => by rw [z] at hb; have e : (0 : Int32).toInt = 0 := rfl; omega
  refine sDo_of1 (nL := 5) (L := [some (.ref 0), some (.int x), none, none, none]) (by omega) rfl rfl ?_
  refine g_aload_n (i := 0) rfl rfl ?_
  refine g_iload_n (i := 1) rfl rfl ?_
  refine g_virt1 (Qc := fun r h' => h' = h ∧ r = some (.int b)) rfl (by decide) rfl h0 rfl (Nat.le_of_ble_eq_true rfl) (hno) (fun r h hq9 => ?_)
  obtain ⟨rfl, rfl⟩ := hq9
  refine g_istore_n (i := 2) (L1 := [some (.ref 0), some (.int x), some (.int b), none, none]) rfl (Nat.le_of_ble_eq_true rfl) rfl ?_
  refine g_iload_n (i := 2) rfl rfl ?_
  refine g_if_eq 16 rfl rfl (fun hc => absurd hc (by exact hb0)) (fun _ => ?_)
  refine g_aload_n (i := 0) rfl rfl ?_
  refine g_iload_n (i := 2) rfl rfl ?_
  refine g_virt1 (Qc := fun r h' => r = some (.int b) ∧ h' = h.set 43 (rFc (bump R B))) rfl (by decide) rfl h0 rfl (Nat.le_of_ble_eq_true rfl) (s_refuse2 (by omega) h0 hR hb hB) (fun r h9 hq9 => ?_)
  obtain ⟨rfl, rfl⟩ := hq9
  refine g_ireturn (ty := .int) rfl rfl rfl ?_
  exact ⟨rfl, rfl⟩
theorem s_field12n {d : Nat} {h : sHp} {J R hd : Nat → Int32} {x : Int32} {b : Int32} {B : Nat} (hd1 : 3 ≤ d) (hr : h[60]? = some (mO J)) (hR : h[61]? = some (rFc R)) (a4 : h[67]? = some (.inl (0, 8, .inl hd))) (hb : b.toInt = -(B : Int)) (hB : 1 ≤ B ∧ B ≤ 7) (hx : ((0 ≤ x.toInt ∧ x.toInt < 8) ∧ wtS hd x.toInt.toNat 1 = b) ∨ (¬ (0 ≤ x.toInt ∧ x.toInt < 8) ∧ b = -1)) : sDo d 202 [.ref 60, .int x] h (fun r h' => r = some (.int b) ∧ h' = h.set 61 (rFc (bump R B))) := by
  have hb0 : ¬ b = 0 := fun z => by rw [z] at hb; have e : (0 : Int32).toInt = 0 := rfl; omega
  refine sDo_of1 (nL := 5) (L := [some (.ref 60), some (.int x), none, none, none]) (by omega) rfl rfl ?_
  refine g_aload_n (i := 0) rfl rfl ?_
  refine g_iload_n (i := 1) rfl rfl ?_
  refine g_iconst (n := 1) rfl ?_
  refine g_virt2 (Qc := fun r h' => h' = h ∧ r = some (.int b)) rfl (by decide) rfl hr rfl (Nat.le_of_ble_eq_true rfl) (sDo_mono (s_wantsE (w := Int32.ofInt 1) (by omega) hr a4 (Or.inl rfl)) (fun r h9 q => ⟨q.1, ?_⟩)) (fun r h hq9 => ?_)
  · rcases q.2 with ⟨z, q2⟩ | ⟨z, q2⟩
    · rcases hx with ⟨-, y⟩ | ⟨y, -⟩
      · rw [q2, ← y]; rfl
      · exact absurd z y
    · rcases hx with ⟨y, -⟩ | ⟨-, y⟩
      · exact absurd y z
      · rw [q2, y]
  obtain ⟨rfl, rfl⟩ := hq9
  refine g_istore_n (i := 2) (L1 := [some (.ref 60), some (.int x), some (.int b), none, none]) rfl (Nat.le_of_ble_eq_true rfl) rfl ?_
  refine g_iload_n (i := 2) rfl rfl ?_
  refine g_if_eq 17 rfl rfl (fun hc => absurd hc (by exact hb0)) (fun _ => ?_)
  refine g_aload_n (i := 0) rfl rfl ?_
  refine g_iload_n (i := 2) rfl rfl ?_
  refine g_virt1 (Qc := fun r h' => r = some (.int b) ∧ h' = h.set 61 (rFc (bump R B))) rfl (by decide) rfl hr rfl (Nat.le_of_ble_eq_true rfl) (s_no2 (by omega) hr hR hb hB) (fun r h9 hq9 => ?_)
  obtain ⟨rfl, rfl⟩ := hq9
  refine g_ireturn (ty := .int) rfl rfl rfl ?_
  exact ⟨rfl, rfl⟩
theorem iso37 {W gg : Nat} {h h' : sHp} {J J' : Nat → Int32} (a : bFr W gg h h') (q : h[60]? = some (mO J)) (p : h'[60]? = some (mO J')) (hW : W.testBit 3877 = false) : J' 37 = J 37 := by
  obtain ⟨c', h1, h2⟩ := a.2.2 60 _ q
  rw [p] at h1
  cases h1
  obtain ⟨-, -, e3, -⟩ := h2
  have k : (some (Value.int (J' 37)) : Option Value) = some (Value.int (J 37)) := e3 37 hW
  have inj : ∀ {x y : Int32}, (some (Value.int x) : Option Value) = some (Value.int y) → x = y := fun h => by cases h; rfl
  exact inj k
theorem fdE_at {h h' : sHp} {lo q : Nat} {x : va_E} (E : fdE h h' lo) (hx : h[q]? = some x) (e1 : q < lo ∨ 15 < q) (e2 : q < 27 ∨ 37 < q) (e3 : q ≠ 0) (e4 : q ≠ 43) : h'[q]? = some x := (E.2 q e1 e2 e3 e4 (List.getElem?_eq_some_iff.mp hx).1).trans hx
theorem bR5_43 {h : sHp} {c : va_E} (q : bR5 h) : bR5 (h.set 43 c) := bR5_set q (by decide) (by decide) (by decide) (by decide) (by decide)
theorem nr_b {hd : Nat → Int32} {S : Nat} (h1 : hd S = 0 ∨ hd S = 2) : ∃ B : Nat, (1 ≤ B ∧ B ≤ 7) ∧ (nrOf hd S).toInt = -(B : Int) ∧ wtS hd S 1 = nrOf hd S := by
  unfold nrOf wtS
  rcases h1 with e | e
  · rw [e]; exact ⟨3, by decide, by decide, by decide⟩
  · rw [e]; exact ⟨2, by decide, by decide, by decide⟩
theorem pn_field (x : Int32) : pairR (fun h => bR5 h ∧ bNK h) 122 202 [.int x] := pr_mk (c1 := cn_X11_field_0) (c2 := cn_X12_field_0) ch_X11_field_0 ch_X12_field_0 (by decide +kernel) (by decide +kernel) (by decide +kernel) (by decide +kernel) rfl rfl (fun h hH => ⟨bt0 hH, vI0 x, trivial⟩) (fun h hH => ⟨bt60 hH, vI0 x, trivial⟩) (fun h hH hRR => by
  obtain ⟨hR5, hR⟩ := hRR
  obtain ⟨I, G, Ik, Gk, ik, tf, J, g, ⟨q5, q16, q0, x5, x16, x27⟩, qm, ej, rn, rk⟩ := hR
  have qC : nkC h I G Ik Gk ik tf := ⟨q5, q16, q0, x5, x16, x27⟩
  obtain ⟨⟨so, sh, wo, fo, ow⟩, F, fb⟩ := FC_ext5 hH q5 x5
  obtain ⟨cd, Fd, -⟩ := FC_at27 hH x27
  obtain ⟨Rc, hRc⟩ := RA_of hH (p := 43) (Or.inl rfl)
  obtain ⟨s, sI, sJ, gF, gM⟩ := RN_sg rn
  obtain ⟨hd, ro, sz, co, cl, f, gg, q4, bs⟩ := id hR5
  obtain ⟨⟨J', M60, eJ, e37⟩, g75⟩ := id qm
  have q4' := q4
  obtain ⟨a1, a2, a3, a4, a5, a6, a7, a8⟩ := q4'
  have sJ' : sgJ J' s := by obtain ⟨a, b, c, d⟩ := sJ; exact ⟨(eJ 0 (by decide)).trans a, (eJ 1 (by decide)).trans b, (eJ 6 (by decide)).trans c, d⟩
  have l79 := hH.1
  -- refused on both sides
  have refd : ∀ (b : Int32) (B : Nat), b.toInt = -(B : Int) → (1 ≤ B ∧ B ≤ 7) → sDo 9 161 [.ref 0, .int x] h (fun r h' => h' = h ∧ r = some (.int b)) → (((0 ≤ x.toInt ∧ x.toInt < 8) ∧ wtS hd x.toInt.toNat 1 = b) ∨ (¬ (0 ≤ x.toInt ∧ x.toInt < 8) ∧ b = -1)) → sDo 10 cn_X11_field_0.1 (.ref 0 :: [.int x]) h (fun r1 h1 => bH h1 → bFr cn_X11_field_0.2.2.2.2.1 cn_X11_field_0.2.2.2.2.2.1 h h1 → sDo 10 cn_X12_field_0.1 (.ref 60 :: [.int x]) h1 (fun r2 h2 => bH h2 → bFr cn_X12_field_0.2.2.2.2.1 cn_X12_field_0.2.2.2.2.2.1 h1 h2 → (bR5 h2 ∧ bNK h2) ∧ ∃ x, r1 = some x ∧ r2 = some x)) := by
    intro b B hb hB hno hx
    refine sDo_mono (s_field11n (d := 10) (by omega) q0 hRc hb hB hno) (fun r1 h1 q hH1 fr1 => ?_)
    obtain ⟨rfl, rfl⟩ := q
    obtain ⟨Rm, hRm⟩ := RA_of hH1 (p := 61) (Or.inr rfl)
    refine sDo_mono (s_field12n (d := 10) (by omega) (by rw [s_set_ne (by decide)]; exact M60) hRm (by rw [s_set_ne (by decide)]; exact a4) hb hB hx) (fun r2 h2 p hH2 fr2 => ?_)
    obtain ⟨rfl, rfl⟩ := p
    refine ⟨⟨bR5_fr fr2 (by decide +kernel) (bR5_43 hR5), I, G, Ik, Gk, ik, tf, J, g, nkC_fr fr2 (by decide +kernel) (nkC_43 qC), ⟨⟨J', by rw [s_set_ne (by decide), s_set_ne (by decide)]; exact M60, eJ, e37⟩, by rw [s_set_ne (by decide), s_set_ne (by decide)]; exact g75⟩, ej, rn, rk⟩, _, rfl, rfl⟩
  by_cases hS : 0 ≤ x.toInt ∧ x.toInt < 8
  · obtain ⟨S, hx⟩ : ∃ S : Nat, x.toInt = S := ⟨x.toInt.toNat, by omega⟩
    obtain ⟨ot, z, el, b1, b2, b3⟩ := bs S (by omega)
    have hno := s_noIn (d := 7) (el := el) hH q4 hx (by omega) b1 b3
    have row : hd S = 1 ∨ (hd S = 0 ∨ hd S = 2) := by
      rcases b3 with ⟨e, -⟩ | ⟨e, -⟩ | ⟨e, -⟩
      · exact Or.inr (Or.inl e)
      · exact Or.inl e
      · exact Or.inr (Or.inr e)
    rcases row with h1 | h1
    · -- a row
      rcases b3 with ⟨e, -⟩ | ⟨-, -, eo, o0, o3, ez, z0, z100, eel⟩ | ⟨e, -⟩
      · rw [h1] at e; exact absurd e (by decide)
      · obtain ⟨n, hn⟩ : ∃ n : Nat, z.toInt = n := ⟨z.toInt.toNat, by omega⟩
        have hz : z = Int32.ofNat n := Int32.toInt_inj.mp (by rw [hn, ofN_toInt (by omega)])
        have hno0 : sDo 9 161 [.ref 0, .int x] h (fun r h' => h' = h ∧ r = some (.int 0)) := sDo_mono hno (fun r h' q => ⟨q.1, by rw [q.2]; unfold nrOf; rw [if_pos h1]⟩)
        have sI2 : sgI (cfBecome (I, G, so, sh, wo, fo, ow) cd) s := ⟨(bc_I I cd.1 0 (by decide)).trans sI.1, (bc_I I cd.1 1 (by decide)).trans sI.2.1, (bc_I I cd.1 11 (by decide)).trans sI.2.2.1, sI.2.2.2⟩
        have RT1 : RT cl S n (tx el n) := ⟨by omega, by omega, fun i hi => by
            unfold tx
            rw [if_pos hi, eel i (by omega)], fun i hi => if_neg (by omega)⟩
        rw [hz] at b1
        refine sDo_mono (s_field11 (d := 10) (S := S) (n := n) (by omega) l79 q0 hRc F Fd fb (fun as => fb_dos (fb_bc (a := (I, G, so, sh, wo, fo, ow)) fb) as) (by omega) (by omega) hx a1 (a2 S (by omega)) b1 b2 sI2 hno0) (fun r1 h1' q hH1 fr1 => ?_)
        have hE : ∃ lo, (lo = 5 ∨ lo = 16) ∧ fdE h h1' lo := by
          unfold qF11 at q
          split at q
          · exact ⟨5, Or.inl rfl, q.2.2.2⟩
          · exact ⟨16, Or.inr rfl, q.2.2⟩
        obtain ⟨lo, hlo, E⟩ := hE
        have at_ : ∀ {p : Nat} {x : va_E}, h[p]? = some x → 43 < p → h1'[p]? = some x := fun hx hp => fdE_at E hx (by omega) (by omega) (by omega) (by omega)
        have M60' := at_ M60 (by decide)
        obtain ⟨⟨so', ow', sh', fo', va'⟩, M⟩ := MC_ext hH1 M60'
        obtain ⟨Rm, hRm⟩ := RA_of hH1 (p := 61) (Or.inr rfl)
        obtain ⟨gw, hgw, -, -⟩ := bA60 hH1 (p := 74) (by decide) rfl
        obtain ⟨wd, w0, WW⟩ := WD_of hH1
        have rnJ : RN (I, G, so, sh, wo, fo, ow) (J', so', ow', sh', fo', va') := RN_J (m := (J, so', ow', sh', fo', va')) rn eJ
        have x27' := fxR_fr fr1 (Or.inr (Or.inr rfl)) (by decide +kernel) x27
        have g75' := at_ g75 (by decide)
        refine sDo_mono (s_field12 (d := 10) (S := S) (n := n) (by omega) M hRm hgw w0 WW (at_ a4 (by decide)) (at_ a6 (by decide)) (at_ a8 (by decide)) (by omega) hx h1 (by rw [← ez, hz]) RT1 sJ') (fun r2 h2 p hH2 fr2 => ?_)
        have R2 := bR5_fr fr2 (by decide +kernel) (bR5_fr fr1 (by decide +kernel) hR5)
        cases hi : itsS (tx el n) n 101 s 0 with
        | none =>
          rw [hi] at q p
          obtain ⟨rfl, ⟨tf2, z0'⟩, E1⟩ := q
          obtain ⟨rfl, ⟨m0, g0, ⟨J2, R2'⟩, M2, mq⟩, E2⟩ := p
          obtain ⟨f6, a6', b6⟩ := x16
          obtain ⟨f5, a5', b5⟩ := x5
          have nc : nkC h1' I G Ik Gk ik tf2 := ⟨fdE_at E1 q5 (by decide) (by decide) (by decide) (by decide), fdE_at E1 q16 (by decide) (by decide) (by decide) (by decide), z0', ⟨f5, fdE_at E1 a5' (by decide) (by decide) (by decide) (by decide), b5⟩, ⟨f6, fdE_at E1 a6' (by decide) (by decide) (by decide) (by decide), b6⟩, x27'⟩
          have rn2 : RN (I, G, so, sh, wo, fo, ow) (J2, R2') := RN_ok.1 _ _ _ (RN_ok.2.2.2.1 _ _ m0 g0 rnJ) mq
          exact ⟨⟨R2, I, G, Ik, Gk, ik, tf2, J2, g, nkC_fr fr2 (by decide +kernel) nc, ⟨⟨J2, M2.1, fun _ _ => rfl, rfl⟩, (E2.2 75 (by decide) (by decide) (by decide)).trans g75'⟩, (iso37 fr2 M60' M2.1 (by decide +kernel)).trans (e37.trans ej), rn2, rk⟩, _, rfl, rfl⟩
        | some kb =>
          obtain ⟨k, as⟩ := kb
          rw [hi] at q p
          obtain ⟨rfl, F1, z0', E1⟩ := q
          obtain ⟨rfl, ⟨⟨J2, R2'⟩, M2, mq⟩, E2⟩ := p
          have ok := (its_ok hi sI2).1
          have rn1 : RN (cfBecome (I, G, so, sh, wo, fo, ow) cd) (J', so', ow', sh', fo', va') := RN_ok.2.2.1 _ _ _ rnJ
          have rn2 := RN_ok.2.2.1 _ (I, G, so, sh, wo, fo, ow) _ (rel_dos RN_ok rn1 sI2 sJ' ok)
          have rn3 := RN_ok.1 _ _ _ rn2 mq
          obtain ⟨f6, a6', b6⟩ := x16
          have nc : nkC h1' (cfBecome (as.foldl cfDo (cfBecome (I, G, so, sh, wo, fo, ow) cd)) (I, G, so, sh, wo, fo, ow)).1 (cfBecome (as.foldl cfDo (cfBecome (I, G, so, sh, wo, fo, ow) cd)) (I, G, so, sh, wo, fo, ow)).2.1 Ik Gk ik (-1) := ⟨F1.1, fdE_at E1 q16 (by decide) (by decide) (by decide) (by decide), z0', F1.2.2.2.1, ⟨f6, fdE_at E1 a6' (by decide) (by decide) (by decide) (by decide), b6⟩, x27'⟩
          exact ⟨⟨R2, _, _, Ik, Gk, ik, -1, J2, g, nkC_fr fr2 (by decide +kernel) nc, ⟨⟨J2, M2.1, fun _ _ => rfl, rfl⟩, (E2.2 75 (by decide) (by decide) (by decide)).trans g75'⟩, (iso37 fr2 M60' M2.1 (by decide +kernel)).trans (e37.trans ej), rn3, rk⟩, _, rfl, rfl⟩
      · rw [h1] at e; exact absurd e (by decide)
    · obtain ⟨B, hB, eB, ew⟩ := nr_b h1
      exact refd _ B eB hB hno (Or.inl ⟨hS, by rw [show x.toInt.toNat = S by omega]; exact ew⟩)
  · exact refd (-1) 1 (by decide) (by decide) (s_noOut (d := 7) hS) (Or.inr ⟨hS, rfl⟩))
