/-! ===== the reference's items: heirs; an item ===== -/
theorem s_it6_go {d : Nat} {h0 : sHp} {cl : Nat → Int64} {S n E : Nat} {T : Nat → Int32} {x1 x3 : Int32} {o6 : Option Value} (R : RT cl S n T) (hE : E < 5) (hd : 3 ≤ d) : ∀ (f k A : Nat) (h : sHp) (J so ow sh fo va : Nat → Int32) (m0 : MF), f + k = 6 → A + 3 * f < 880 → MC h (J, so, ow, sh, fo, va) → mS m0 (J, so, ow, sh, fo, va) → mE h0 h → h[71]? = some (.inl (1, 800, .inr (.inl cl))) → rtJ J S n A → sGo none 199 d 230 [some (.ref 60), some (.int x1), some (.int (Int32.ofNat 6)), some (.int x3), some (.int (Int32.ofNat E)), some (.int (Int32.ofNat k)), o6] [] h (qIm h0 m0 S n (wrtS T E f k A)) := by
  have e6 : (Int8.ofInt 6).toInt32.toInt = 6 := rfl
  have eE := ofN_toInt (n := E) (by omega)
  intro f
  induction f with
  | zero =>
    intro k A h J so ow sh fo va m0 hk hA M m0e E0 a8 hJ
    have ek := ofN_toInt (n := k) (by omega)
    refine g_iload (i := 5) rfl rfl ?_
    refine g_bipush (n := 6) rfl ?_
    refine g_icmp_ge 272 rfl rfl (fun _ => ?_) (fun hc => absurd hc (by rw [i_le, e6, ek]; omega))
    refine g_goto 361 rfl rfl ?_
    refine g_iconst (n := 1) rfl ?_
    refine g_ireturn (ty := .boolean) rfl rfl (by decide) ?_
    exact ⟨rfl, _, M, m0e, hJ, E0⟩
  | succ f ih =>
    intro k A h J so ow sh fo va m0 hk hA M m0e E0 a8 hJ
    have ek := ofN_toInt (n := k) (by omega)
    have hnx := s_next (d := 0) (lo := Int32.ofInt 0) (hi := (Int8.ofInt 99).toInt32) M.1 a8 R hJ (by omega)
    replace hnx : sDo (0 + 3) 196 [.ref 60, .int (Int32.ofInt 0), .int ((Int8.ofInt 99).toInt32)] h (qMu h J (nxtS T A 0 99)) := hnx
    unfold wrtS
    refine g_iload (i := 5) rfl rfl ?_
    refine g_bipush (n := 6) rfl ?_
    refine g_icmp_ge 272 rfl rfl (fun hc => absurd hc (by rw [i_le, e6, ek]; omega)) (fun _ => ?_)
    refine g_aload_n (i := 0) rfl rfl ?_
    refine g_iconst (n := 0) rfl ?_
    refine g_bipush (n := 99) rfl ?_
    refine g_virt2 rfl (by decide) rfl M.1 rfl (Nat.le_of_ble_eq_true rfl) (sDo_up (d := 3) (by omega) hnx) (fun r h_1 hq => ?_)
    obtain ⟨J1, rfl, js1, hq⟩ := hq
    cases hs1 : nxtS T A 0 99 with
    | none =>
      rw [hs1] at hq
      obtain rfl := hq
      refine g_if_ne 249 rfl rfl (fun hc => absurd hc (by decide)) (fun _ => ?_)
      refine g_iconst (n := 0) rfl ?_
      refine g_ireturn (ty := .boolean) rfl rfl (by decide) ?_
      exact ⟨rfl, _, MC_0 M, mE_tr E0 (mE_set mE_rfl (by omega))⟩
    | some vp =>
      obtain ⟨v1, A1⟩ := vp
      rw [hs1] at hq
      obtain ⟨rfl, t1, p1⟩ := hq
      refine g_if_ne 249 rfl rfl (fun _ => ?_) (fun hc => absurd hc (by decide))
      have nl := nxtS_le hs1
      have M1 := MC_0 (f := J1) M
      have k1 := jS_rt js1 hJ p1
      have m1 : ((Int8.ofInt 6).toInt32 * Int32.ofNat E).toInt = 6 * E := by rw [i_mul (by rw [e6, eE]; omega) (by rw [e6, eE]; omega), e6, eE]
      have m2 : ((Int8.ofInt 6).toInt32 * Int32.ofNat E + Int32.ofNat k).toInt = ((6 * E + k : Nat) : Int) := by rw [i_add (by rw [m1, ek]; omega) (by rw [m1, ek]; omega), m1, ek]; omega
      refine g_aload_n (i := 0) rfl rfl ?_
      refine g_getfield (v := .ref 66) rfl M1.1 (by decide) rfl ?_
      refine g_bipush (n := 6) rfl ?_
      refine g_iload (i := 4) rfl rfl ?_
      refine g_imul rfl ?_
      refine g_iload (i := 5) rfl rfl ?_
      refine g_iadd rfl ?_
      refine g_aload_n (i := 0) rfl rfl ?_
      refine g_getfield (v := .int (J1 24)) rfl M1.1 (by decide) rfl ?_
      rw [t1]
      refine g_iastore (h1 := (h.set 60 (mO J1)).set 66 (.inl (0, 30, .inl (upd va (6 * E + k) (Int32.ofNat v1))))) rfl M1.2.2.2.2.2 (i_in (by omega) (by omega)) (by rw [i_nat m2]) ?_
      refine g_iinc (i := 5) (L1 := [some (.ref 60), some (.int x1), some (.int (Int32.ofNat 6)), some (.int x3), some (.int (Int32.ofNat E)), some (.int ((Int32.ofNat k) + Int32.ofInt 1)), o6]) rfl rfl rfl ?_
      rw [ofN_add (by omega)]
      refine g_goto 230 rfl rfl ?_
      have mz : mS (mfDo m0 (4, E, k, v1)) (J1, so, ow, sh, fo, upd va (6 * E + k) (Int32.ofNat v1)) := by
        obtain ⟨b1, b2⟩ := m0e
        obtain ⟨J0, R0⟩ := m0
        have b2 : (so, ow, sh, fo, va) = R0 := b2
        subst b2
        exact ⟨jS_tr b1 js1, rfl⟩
      have key := ih (k + 1) A1 _ J1 so ow sh fo (upd va (6 * E + k) (Int32.ofNat v1)) (mfDo m0 (4, E, k, v1)) (by omega) (by omega) (MC_5 M1) mz (mE_tr E0 (mE_set (mE_set mE_rfl (by omega)) (by omega))) (by rw [s_set_ne (by decide), s_set_ne (by decide)]; exact a8) k1
      dsimp only
      cases hw : wrtS T E f (k + 1) A1 with
      | none => rw [hw] at key; exact key
      | some q => obtain ⟨as, p2⟩ := q; rw [hw] at key; exact key
theorem s_it6 {d : Nat} {h0 h : sHp} {J so ow sh fo va : Nat → Int32} {cl : Nat → Int64} {S n A : Nat} {T : Nat → Int32} {m0 : MF} {x1 x3 : Int32} {o4 o5 o6 : Option Value} {E : Nat} (M : MC h (J, so, ow, sh, fo, va)) (m0e : mS m0 (J, so, ow, sh, fo, va)) (E0 : mE h0 h) (a8 : h[71]? = some (.inl (1, 800, .inr (.inl cl)))) (R : RT cl S n T) (hJ : rtJ J S n (A + 1)) (hA : A < 850) (hd : 3 ≤ d) (hb : T A = 32) (hJ6 : J 6 = Int32.ofNat E) (hE : E < 5) : sGo none 199 d 56 [some (.ref 60), some (.int x1), some (.int (Int32.ofNat 6)), some (.int x3), o4, o5, o6] [] h (qIm h0 m0 S n (heiS T A E)) := by
  have hn : nxtS T A 1 9 = numS T (A + 1) 1 9 := if_pos hb
  have eE := ofN_toInt (n := E) (by omega)
  have e5 : (Int32.ofInt 5).toInt = 5 := rfl
  have hnu := s_number (d := 0) (lo := Int32.ofInt 1) (hi := (Int8.ofInt 9).toInt32) M.1 a8 R hJ (by omega)
  replace hnu : sDo (0 + 2) 195 [.ref 60, .int (Int32.ofInt 1), .int ((Int8.ofInt 9).toInt32)] h (qMu h J (numS T (A + 1) 1 9)) := hnu
  unfold heiS
  rw [hn]
  refine g_iload_n (i := 2) rfl rfl ?_
  refine g_if_ne 103 rfl rfl (fun _ => ?_) (fun hc => absurd hc (by exact fun z => absurd z (by decide)))
  refine g_iload_n (i := 2) rfl rfl ?_
  refine g_iconst (n := 1) rfl ?_
  refine g_icmp_ne 185 rfl rfl (fun _ => ?_) (fun hc => absurd hc (by exact fun z => absurd z (by decide)))
  refine g_iload_n (i := 2) rfl rfl ?_
  refine g_bipush (n := 6) rfl ?_
  refine g_icmp_ne 275 rfl rfl (fun hc => absurd hc (by exact fun z => z rfl)) (fun _ => ?_)
  refine g_aload_n (i := 0) rfl rfl ?_
  refine g_getfield (v := .int (J 6)) rfl M.1 (by decide) rfl ?_
  refine g_iconst (n := 5) rfl ?_
  refine g_icmp_ne 205 rfl rfl (fun _ => ?_) (fun hc => absurd hc (by intro z; have z : J 6 = Int32.ofInt 5 := z; rw [hJ6] at z; have z2 := congrArg Int32.toInt z; rw [eE, e5] at z2; omega))
  refine g_aload_n (i := 0) rfl rfl ?_
  refine g_iconst (n := 1) rfl ?_
  refine g_bipush (n := 9) rfl ?_
  refine g_virt2 rfl (by decide) rfl M.1 rfl (Nat.le_of_ble_eq_true rfl) (sDo_up (d := 2) (by omega) hnu) (fun r h_1 hq => ?_)
  obtain ⟨J1, rfl, js1, hq⟩ := hq
  cases hs1 : numS T (A + 1) 1 9 with
  | none =>
    rw [hs1] at hq
    obtain rfl := hq
    refine g_if_ne 217 rfl rfl (fun hc => absurd hc (by decide)) (fun _ => ?_)
    refine g_iconst (n := 0) rfl ?_
    refine g_ireturn (ty := .boolean) rfl rfl (by decide) ?_
    exact ⟨rfl, _, MC_0 M, mE_tr E0 (mE_set mE_rfl (by omega))⟩
  | some vp =>
    obtain ⟨v1, A1⟩ := vp
    rw [hs1] at hq
    obtain ⟨rfl, t1, p1⟩ := hq
    refine g_if_ne 217 rfl rfl (fun _ => ?_) (fun hc => absurd hc (by decide))
    have nl := nxtS_le (hn.trans hs1)
    have M1 := MC_0 (f := J1) M
    have k1 := jS_rt js1 hJ p1
    have j6 : J1 6 = Int32.ofNat E := (js1 6 (by decide) (by decide) (by decide)).trans hJ6
    dsimp only
    refine g_aload_n (i := 0) rfl rfl ?_
    refine g_aload_n (i := 0) rfl rfl ?_
    refine g_getfield (v := .int (J1 24)) rfl M1.1 (by decide) rfl ?_
    rw [t1]
    refine g_virt1 rfl (by decide) rfl M1.1 rfl (Nat.le_of_ble_eq_true rfl) (sDo_up (d := 1) (by omega) (s_comesE (d := 0) (p := Int32.ofNat v1) M1 j6 hE)) (fun r h_3 hq => ?_)
    obtain ⟨rfl, q1, q2⟩ := hq
    refine g_istore (i := 4) (L1 := [some (.ref 60), some (.int x1), some (.int (Int32.ofNat 6)), some (.int x3), some (.int (Int32.ofNat E)), o5, o6]) rfl (Nat.le_of_ble_eq_true rfl) rfl ?_
    refine g_iconst (n := 0) rfl ?_
    refine g_istore (i := 5) (L1 := [some (.ref 60), some (.int x1), some (.int (Int32.ofNat 6)), some (.int x3), some (.int (Int32.ofNat E)), some (.int (Int32.ofInt 0)), o6]) rfl (Nat.le_of_ble_eq_true rfl) rfl ?_
    have mz : mS (mfDo m0 (3, v1, 0, 0)) (mfHeir E (Int32.ofNat v1) (J1, so, ow, sh, fo, va)) := by
      obtain ⟨b1, b2⟩ := m0e
      obtain ⟨J0, R0⟩ := m0
      have b2 : (so, ow, sh, fo, va) = R0 := b2
      subst b2
      have j0 : (J0 6).toNatClampNeg = E := by
        have : J 6 = J0 6 := b1 6 (by decide) (by decide) (by decide)
        rw [← this, hJ6]
        exact i_nat eE
      show mS (mfHeir (J0 6).toNatClampNeg (Int32.ofNat v1) (J0, so, ow, sh, fo, va)) _
      rw [j0]
      exact ⟨jS_upd (jS_tr b1 js1), rfl⟩
    have key := s_it6_go (d := d) (x1 := x1) (x3 := x3) (o6 := o6) R hE hd 6 0 A1 h_3 _ _ _ _ _ _ (mfDo m0 (3, v1, 0, 0)) rfl (by omega) q1 mz (mE_tr E0 (mE_tr (mE_set mE_rfl (by omega)) q2)) ((q2.2 71 (by decide) (by decide)).trans (by rw [s_set_ne (by decide)]; exact a8)) ⟨k1.1, k1.2.1, k1.2.2⟩
    cases hw : wrtS T E 6 0 A1 with
    | none => rw [hw] at key; exact key
    | some q => obtain ⟨as, p2⟩ := q; rw [hw] at key; exact key
