theorem pk_field {Rel : CF → MF → Prop} (ok : relOk Rel) (x : Int32) : pairR (fun h => bR5 h ∧ bFL Rel h) 122 202 [.int x] := pr_mk (c1 := cn_X11_field_0) (c2 := cn_X12_field_0) ch_X11_field_0 ch_X12_field_0 (by decide +kernel) (by decide +kernel) (by decide +kernel) (by decide +kernel) rfl rfl (fun h hH => ⟨bt0 hH, vI0 x, trivial⟩) (fun h hH => ⟨bt60 hH, vI0 x, trivial⟩) (fun h hH hRR => by
  obtain ⟨hR5, hR⟩ := hRR
  obtain ⟨c, ck, m, g, ik, tf, kc, km, ej, rl, rk⟩ := hR
  have F := kc.1
  have q0 := kc.2.2.1
  obtain ⟨Rc, hRc⟩ := RA_of hH (p := 43) (Or.inl rfl)
  obtain ⟨s, sI, sJ, gF, gM⟩ := RN_sg (ok.2.2.2.2.1 _ _ rl)
  obtain ⟨cd, Fd, -⟩ := FC_at27 hH kc.2.2.2
  have fb := fb_of hH F (Or.inl rfl)
  obtain ⟨hd, ro, sz, co, cl, f, gg, q4, bs⟩ := id hR5
  have q4' := q4
  obtain ⟨a1, a2, a3, a4, a5, a6, a7, a8⟩ := q4'
  have l79 := hH.1
  -- refused on both sides
  have refd : ∀ (b : Int32) (B : Nat), b.toInt = -(B : Int) → (1 ≤ B ∧ B ≤ 7) → sDo 9 161 [.ref 0, .int x] h (fun r h' => h' = h ∧ r = some (.int b)) → (((0 ≤ x.toInt ∧ x.toInt < 8) ∧ wtS hd x.toInt.toNat 1 = b) ∨ (¬ (0 ≤ x.toInt ∧ x.toInt < 8) ∧ b = -1)) → sDo 10 cn_X11_field_0.1 (.ref 0 :: [.int x]) h (fun r1 h1 => bH h1 → bFr cn_X11_field_0.2.2.2.2.1 cn_X11_field_0.2.2.2.2.2.1 h h1 → sDo 10 cn_X12_field_0.1 (.ref 60 :: [.int x]) h1 (fun r2 h2 => bH h2 → bFr cn_X12_field_0.2.2.2.2.1 cn_X12_field_0.2.2.2.2.2.1 h1 h2 → (bR5 h2 ∧ bFL Rel h2) ∧ ∃ x, r1 = some x ∧ r2 = some x)) := by
    intro b B hb hB hno hx
    refine sDo_mono (s_field11n (d := 10) (by omega) q0 hRc hb hB hno) (fun r1 h1 q hH1 fr1 => ?_)
    obtain ⟨rfl, rfl⟩ := q
    obtain ⟨Rm, hRm⟩ := RA_of hH1 (p := 61) (Or.inr rfl)
    refine sDo_mono (s_field12n (d := 10) (by omega) (kM_43 km).1.1 hRm (by rw [s_set_ne (by decide)]; exact a4) hb hB hx) (fun r2 h2 p hH2 fr2 => ?_)
    obtain ⟨rfl, rfl⟩ := p
    exact ⟨⟨bR5_fr fr2 (by decide +kernel) (bR5_43 hR5), c, ck, m, g, ik, tf, kC_61 (kC_43 kc), kM_61 (kM_43 km), ej, rl, rk⟩, _, rfl, rfl⟩
  by_cases hS : 0 ≤ x.toInt ∧ x.toInt < 8
  · obtain ⟨S, hx⟩ : ∃ S : Nat, x.toInt = S := ⟨x.toInt.toNat, by omega⟩
    obtain ⟨ot, z, el, b1, b2, b3⟩ := bs S (by omega)
    have hno := s_noIn (d := 7) (el := el) hH q4 hx (by omega) b1 b3
    have row : hd S = 1 ∨ (hd S = 0 ∨ hd S = 2) := by
      rcases b3 with ⟨e, -⟩ | ⟨e, -⟩ | ⟨e, -⟩
      · exact Or.inr (Or.inl e)
      · exact Or.inl e
      · exact Or.inr (Or.inr e)
    rcases row with h1 | h1
    · -- a row
      rcases b3 with ⟨e, -⟩ | ⟨-, -, eo, o0, o3, ez, z0, z100, eel⟩ | ⟨e, -⟩
      · rw [h1] at e; exact absurd e (by decide)
      · obtain ⟨n, hn⟩ : ∃ n : Nat, z.toInt = n := ⟨z.toInt.toNat, by omega⟩
        have hz : z = Int32.ofNat n := Int32.toInt_inj.mp (by rw [hn, ofN_toInt (by omega)])
        have hno0 : sDo 9 161 [.ref 0, .int x] h (fun r h' => h' = h ∧ r = some (.int 0)) := sDo_mono hno (fun r h' q => ⟨q.1, by rw [q.2]; unfold nrOf; rw [if_pos h1]⟩)
        have sI2 : sgI (cfBecome c cd) s := ⟨(bc_I c.1 cd.1 0 (by decide)).trans sI.1, (bc_I c.1 cd.1 1 (by decide)).trans sI.2.1, (bc_I c.1 cd.1 11 (by decide)).trans sI.2.2.1, sI.2.2.2⟩
        have RT1 : RT cl S n (tx el n) := ⟨by omega, by omega, fun i hi => by
            unfold tx
            rw [if_pos hi, eel i (by omega)], fun i hi => if_neg (by omega)⟩
        rw [hz] at b1
        refine sDo_mono (s_field11 (d := 10) (S := S) (n := n) (by omega) l79 q0 hRc F Fd fb (fun as => fb_dos (fb_bc (a := c) fb) as) (by omega) (by omega) hx a1 (a2 S (by omega)) b1 b2 sI2 hno0) (fun r1 h1' q hH1 fr1 => ?_)
        have hE : ∃ lo, (lo = 5 ∨ lo = 16) ∧ fdE h h1' lo := by
          unfold qF11 at q
          split at q
          · exact ⟨5, Or.inl rfl, q.2.2.2⟩
          · exact ⟨16, Or.inr rfl, q.2.2⟩
        obtain ⟨lo, hlo, E⟩ := hE
        have at_ : ∀ {p : Nat} {x : va_E}, h[p]? = some x → 43 < p → h1'[p]? = some x := fun hx hp => fdE_at E hx (by omega) (by omega) (by omega) (by omega)
        have km1 : kM h1' m g := kM_tr km (fun q x h1 _ hx => at_ hx (by omega))
        have M := km1.1
        obtain ⟨Rm, hRm⟩ := RA_of hH1 (p := 61) (Or.inr rfl)
        obtain ⟨gw, hgw, -, -⟩ := bA60 hH1 (p := 74) (by decide) rfl
        obtain ⟨wd, w0, WW⟩ := WD_of hH1
        have x27' := fxR_fr fr1 (Or.inr (Or.inr rfl)) (by decide +kernel) kc.2.2.2
        refine sDo_mono (s_field12 (d := 10) (S := S) (n := n) (by omega) M hRm hgw w0 WW (at_ a4 (by decide)) (at_ a6 (by decide)) (at_ a8 (by decide)) (by omega) hx h1 (by rw [← ez, hz]) RT1 sJ) (fun r2 h2 p hH2 fr2 => ?_)
        have R2 := bR5_fr fr2 (by decide +kernel) (bR5_fr fr1 (by decide +kernel) hR5)
        cases hi : itsS (tx el n) n 101 s 0 with
        | none =>
          rw [hi] at q p
          obtain ⟨rfl, ⟨tf2, z0'⟩, E1⟩ := q
          obtain ⟨rfl, ⟨m0, g0, m2, M2, mq⟩, E2⟩ := p
          have nc : kC h1' c ck ik tf2 := ⟨FC_tr F (fun q x h1 h2 hx => fdE_at E1 hx (by omega) (by omega) (by omega) (by omega)), FC_tr kc.2.1 (fun q x h1 h2 hx => fdE_at E1 hx (by omega) (by omega) (by omega) (by omega)), z0', x27'⟩
          have rl2 : Rel c m2 := ok.1 _ _ _ (ok.2.2.2.1 _ _ m0 g0 rl) mq
          exact ⟨⟨R2, c, ck, m2, g, ik, tf2, kC_fr fr2 (by decide +kernel) (by decide +kernel) nc, ⟨M2, (E2.2 75 (by decide) (by decide) (by decide)).trans km1.2⟩, (iso37 fr2 M.1 M2.1 (by decide +kernel)).trans ej, rl2, rk⟩, _, rfl, rfl⟩
        | some kb =>
          obtain ⟨k, as⟩ := kb
          rw [hi] at q p
          obtain ⟨rfl, F1, z0', E1⟩ := q
          obtain ⟨rfl, ⟨m2, M2, mq⟩, E2⟩ := p
          have okA := (its_ok hi sI2).1
          have rl1 : Rel (cfBecome c cd) m := ok.2.2.1 _ _ _ rl
          have rl2 := ok.2.2.1 _ c _ (rel_dos ok rl1 sI2 sJ okA)
          have rl3 := ok.1 _ _ _ rl2 mq
          have nc : kC h1' (cfBecome (as.foldl cfDo (cfBecome c cd)) c) ck ik (-1) := ⟨F1, FC_tr kc.2.1 (fun q x h1 h2 hx => fdE_at E1 hx (by omega) (by omega) (by omega) (by omega)), z0', x27'⟩
          exact ⟨⟨R2, _, ck, m2, g, ik, -1, kC_fr fr2 (by decide +kernel) (by decide +kernel) nc, ⟨M2, (E2.2 75 (by decide) (by decide) (by decide)).trans km1.2⟩, (iso37 fr2 M.1 M2.1 (by decide +kernel)).trans ej, rl3, rk⟩, _, rfl, rfl⟩
      · rw [h1] at e; exact absurd e (by decide)
    · obtain ⟨B, hB, eB, ew⟩ := nr_b h1
      exact refd _ B eB hB hno (Or.inl ⟨hS, by rw [show x.toInt.toNat = S by omega]; exact ew⟩)
  · exact refd (-1) 1 (by decide) (by decide) (s_noOut (d := 7) hS) (Or.inr ⟨hS, rfl⟩))
