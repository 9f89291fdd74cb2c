/-! ===== the reference's items ===== -/
def mfDo (m : MF) (a : Act) : MF := match a with
  | (0, w, hh, _) => mfSize (Int32.ofNat w) (Int32.ofNat hh) m
  | (1, v, fr, to) => (m.1, (fun i => if fr ≤ i ∧ i ≤ to then Int32.ofNat v else m.2.1 i), m.2.2)
  | (2, k, v, _) => (upd m.1 (2 + k) (Int32.ofNat v), m.2)
  | (3, share, _, _) => mfHeir (m.1 6).toNatClampNeg (Int32.ofNat share) m
  | (_, i, v, x) => (m.1, m.2.1, m.2.2.1, m.2.2.2.1, m.2.2.2.2.1, upd m.2.2.2.2.2 (6 * i + v) (Int32.ofNat x))
/-- alike but for the reader's own ints -/
def mS (m m' : MF) : Prop := jS m.1 m'.1 ∧ m'.2 = m.2
def qIm (h : sHp) (m : MF) (S n : Nat) (q : Option (List Act × Nat)) (r : Option Value) (h' : sHp) : Prop := match q with
  | some (as, A') => r = some (.int 1) ∧ ∃ m', MC h' m' ∧ mS (as.foldl mfDo m) m' ∧ rtJ m'.1 S n A' ∧ mE h h'
  | none => r = some (.int 0) ∧ ∃ m', MC h' m' ∧ mE h h'
theorem jS_rt {J J' : Nat → Int32} {S n A A' : Nat} (a : jS J J') (b : rtJ J S n A) (c : J' 22 = Int32.ofNat A') : rtJ J' S n A' := ⟨(a 21 (by decide) (by decide) (by decide)).trans b.1, c, (a 23 (by decide) (by decide) (by decide)).trans b.2.2⟩
theorem jS_upd {J J' : Nat → Int32} {j : Nat} {v : Int32} (a : jS J J') : jS (upd J j v) (upd J' j v) := fun i x y z => by
  by_cases e : i = j
  · rw [e, u_at, u_at]
  · rw [u_ne e, u_ne e]
    exact a i x y z
theorem s_itP {d : Nat} {h0 h : sHp} {J so ow sh fo va : Nat → Int32} {cl : Nat → Int64} {S n A : Nat} {T : Nat → Int32} {m0 : MF} {x1 x3 : Int32} {o4 o5 o6 : Option Value} {v : Nat} {hi : Int} (M : MC h (J, so, ow, sh, fo, va)) (m0e : mS m0 (J, so, ow, sh, fo, va)) (E0 : mE h0 h) (a8 : h[71]? = some (.inl (1, 800, .inr (.inl cl)))) (R : RT cl S n T) (hJ : rtJ J S n (A + 1)) (hA : A < 850) (hd : 3 ≤ d) (hb : T A = 32) (hv : 2 ≤ v ∧ v ≤ 5) (hhi : hi = if v = 2 then 3 else if v = 5 then 20 else x3.toInt) : sGo none 199 d 56 [some (.ref 60), some (.int x1), some (.int (Int32.ofNat v)), some (.int x3), o4, o5, o6] [] h (qIm h0 m0 S n (plcS T A (v - 2) 0 hi)) := by
  have hn : nxtS T A 0 hi = numS T (A + 1) 0 hi := if_pos hb
  unfold plcS
  rw [hn]
  rcases (show v = 2 ∨ v = 3 ∨ v = 4 ∨ v = 5 by omega) with rfl | rfl | rfl | rfl
  · skip
    have hh : hi = 3 := hhi
    subst hh
    have hnu := s_number (d := 0) (lo := Int32.ofInt 0) (hi := Int32.ofInt 3) M.1 a8 R hJ (by omega)
    replace hnu : sDo (0 + 2) 195 [.ref 60, .int (Int32.ofInt 0), .int (Int32.ofInt 3)] h (qMu h J (numS T (A + 1) 0 3)) := hnu
    refine g_iload_n (i := 2) rfl rfl ?_
    refine g_if_ne 103 rfl rfl (fun _ => ?_) (fun hc => absurd hc (by exact fun z => absurd z (by decide)))
    refine g_iload_n (i := 2) rfl rfl ?_
    refine g_iconst (n := 1) rfl ?_
    refine g_icmp_ne 185 rfl rfl (fun _ => ?_) (fun hc => absurd hc (by exact fun z => absurd z (by decide)))
    refine g_iload_n (i := 2) rfl rfl ?_
    refine g_bipush (n := 6) rfl ?_
    refine g_icmp_ne 275 rfl rfl (fun _ => ?_) (fun hc => absurd hc (by exact fun z => absurd z (by decide)))
    refine g_aload_n (i := 0) rfl rfl ?_
    refine g_iconst (n := 0) rfl ?_
    refine g_iload_n (i := 2) rfl rfl ?_
    refine g_iconst (n := 2) rfl ?_
    refine g_icmp_ne 286 rfl rfl (fun hc => absurd hc (by exact fun z => z rfl)) (fun _ => ?_)
    refine g_iconst (n := 3) rfl ?_
    refine g_goto 297 rfl rfl ?_
    refine g_virt2 rfl (by decide) rfl M.1 rfl (Nat.le_of_ble_eq_true rfl) (sDo_up (d := 2) (by omega) hnu) (fun r h_1 hq => ?_)
    obtain ⟨J1, rfl, js1, hq⟩ := hq
    cases hs1 : numS T (A + 1) 0 3 with
    | none =>
      rw [hs1] at hq
      obtain rfl := hq
      refine g_if_ne 305 rfl rfl (fun hc => absurd hc (by decide)) (fun _ => ?_)
      refine g_iconst (n := 0) rfl ?_
      refine g_ireturn (ty := .boolean) rfl rfl (by decide) ?_
      exact ⟨rfl, _, MC_0 M, mE_tr E0 (mE_set mE_rfl (by omega))⟩
    | some vp =>
      obtain ⟨v1, A1⟩ := vp
      rw [hs1] at hq
      obtain ⟨rfl, t1, p1⟩ := hq
      refine g_if_ne 305 rfl rfl (fun _ => ?_) (fun hc => absurd hc (by decide))
      have r1 : (h.set 60 (mO J1))[60]? = some (mO J1) := s_set_eq M.1
      refine g_iload_n (i := 2) rfl rfl ?_
      refine g_iconst (n := 2) rfl ?_
      refine g_icmp_ne 321 rfl rfl (fun hc => absurd hc (by exact fun z => z rfl)) (fun _ => ?_)
      refine g_aload_n (i := 0) rfl rfl ?_
      refine g_aload_n (i := 0) rfl rfl ?_
      refine g_getfield (v := .int (J1 24)) rfl r1 (by decide) rfl ?_
      rw [t1]
      refine g_putfield (h1 := h.set 60 (mO (upd J1 2 (Int32.ofNat v1)))) rfl r1 (by decide) (Nat.le_of_ble_eq_true rfl) rfl (List.set_set ..) ?_
      refine g_goto 361 rfl rfl ?_
      refine g_iconst (n := 1) rfl ?_
      refine g_ireturn (ty := .boolean) rfl rfl (by decide) ?_
      have k := jS_rt js1 hJ p1
      exact ⟨rfl, _, MC_0 M, ⟨jS_upd (jS_tr m0e.1 js1), m0e.2⟩, ⟨k.1, k.2.1, k.2.2⟩, mE_tr E0 (mE_set mE_rfl (by omega))⟩
  · skip
    have hh : hi = x3.toInt := hhi
    subst hh
    have hnu := s_number (d := 0) (lo := Int32.ofInt 0) (hi := x3) M.1 a8 R hJ (by omega)
    replace hnu : sDo (0 + 2) 195 [.ref 60, .int (Int32.ofInt 0), .int (x3)] h (qMu h J (numS T (A + 1) 0 x3.toInt)) := hnu
    refine g_iload_n (i := 2) rfl rfl ?_
    refine g_if_ne 103 rfl rfl (fun _ => ?_) (fun hc => absurd hc (by exact fun z => absurd z (by decide)))
    refine g_iload_n (i := 2) rfl rfl ?_
    refine g_iconst (n := 1) rfl ?_
    refine g_icmp_ne 185 rfl rfl (fun _ => ?_) (fun hc => absurd hc (by exact fun z => absurd z (by decide)))
    refine g_iload_n (i := 2) rfl rfl ?_
    refine g_bipush (n := 6) rfl ?_
    refine g_icmp_ne 275 rfl rfl (fun _ => ?_) (fun hc => absurd hc (by exact fun z => absurd z (by decide)))
    refine g_aload_n (i := 0) rfl rfl ?_
    refine g_iconst (n := 0) rfl ?_
    refine g_iload_n (i := 2) rfl rfl ?_
    refine g_iconst (n := 2) rfl ?_
    refine g_icmp_ne 286 rfl rfl (fun _ => ?_) (fun hc => absurd hc (by exact fun z => absurd z (by decide)))
    refine g_iload_n (i := 2) rfl rfl ?_
    refine g_iconst (n := 5) rfl ?_
    refine g_icmp_ne 296 rfl rfl (fun _ => ?_) (fun hc => absurd hc (by exact fun z => absurd z (by decide)))
    refine g_iload_n (i := 3) rfl rfl ?_
    refine g_virt2 rfl (by decide) rfl M.1 rfl (Nat.le_of_ble_eq_true rfl) (sDo_up (d := 2) (by omega) hnu) (fun r h_1 hq => ?_)
    obtain ⟨J1, rfl, js1, hq⟩ := hq
    cases hs1 : numS T (A + 1) 0 x3.toInt with
    | none =>
      rw [hs1] at hq
      obtain rfl := hq
      refine g_if_ne 305 rfl rfl (fun hc => absurd hc (by decide)) (fun _ => ?_)
      refine g_iconst (n := 0) rfl ?_
      refine g_ireturn (ty := .boolean) rfl rfl (by decide) ?_
      exact ⟨rfl, _, MC_0 M, mE_tr E0 (mE_set mE_rfl (by omega))⟩
    | some vp =>
      obtain ⟨v1, A1⟩ := vp
      rw [hs1] at hq
      obtain ⟨rfl, t1, p1⟩ := hq
      refine g_if_ne 305 rfl rfl (fun _ => ?_) (fun hc => absurd hc (by decide))
      have r1 : (h.set 60 (mO J1))[60]? = some (mO J1) := s_set_eq M.1
      refine g_iload_n (i := 2) rfl rfl ?_
      refine g_iconst (n := 2) rfl ?_
      refine g_icmp_ne 321 rfl rfl (fun _ => ?_) (fun hc => absurd hc (by exact fun z => absurd z (by decide)))
      refine g_iload_n (i := 2) rfl rfl ?_
      refine g_iconst (n := 3) rfl ?_
      refine g_icmp_ne 337 rfl rfl (fun hc => absurd hc (by exact fun z => z rfl)) (fun _ => ?_)
      refine g_aload_n (i := 0) rfl rfl ?_
      refine g_aload_n (i := 0) rfl rfl ?_
      refine g_getfield (v := .int (J1 24)) rfl r1 (by decide) rfl ?_
      rw [t1]
      refine g_putfield (h1 := h.set 60 (mO (upd J1 3 (Int32.ofNat v1)))) rfl r1 (by decide) (Nat.le_of_ble_eq_true rfl) rfl (List.set_set ..) ?_
      refine g_goto 361 rfl rfl ?_
      refine g_iconst (n := 1) rfl ?_
      refine g_ireturn (ty := .boolean) rfl rfl (by decide) ?_
      have k := jS_rt js1 hJ p1
      exact ⟨rfl, _, MC_0 M, ⟨jS_upd (jS_tr m0e.1 js1), m0e.2⟩, ⟨k.1, k.2.1, k.2.2⟩, mE_tr E0 (mE_set mE_rfl (by omega))⟩
  · skip
    have hh : hi = x3.toInt := hhi
    subst hh
    have hnu := s_number (d := 0) (lo := Int32.ofInt 0) (hi := x3) M.1 a8 R hJ (by omega)
    replace hnu : sDo (0 + 2) 195 [.ref 60, .int (Int32.ofInt 0), .int (x3)] h (qMu h J (numS T (A + 1) 0 x3.toInt)) := hnu
    refine g_iload_n (i := 2) rfl rfl ?_
    refine g_if_ne 103 rfl rfl (fun _ => ?_) (fun hc => absurd hc (by exact fun z => absurd z (by decide)))
    refine g_iload_n (i := 2) rfl rfl ?_
    refine g_iconst (n := 1) rfl ?_
    refine g_icmp_ne 185 rfl rfl (fun _ => ?_) (fun hc => absurd hc (by exact fun z => absurd z (by decide)))
    refine g_iload_n (i := 2) rfl rfl ?_
    refine g_bipush (n := 6) rfl ?_
    refine g_icmp_ne 275 rfl rfl (fun _ => ?_) (fun hc => absurd hc (by exact fun z => absurd z (by decide)))
    refine g_aload_n (i := 0) rfl rfl ?_
    refine g_iconst (n := 0) rfl ?_
    refine g_iload_n (i := 2) rfl rfl ?_
    refine g_iconst (n := 2) rfl ?_
    refine g_icmp_ne 286 rfl rfl (fun _ => ?_) (fun hc => absurd hc (by exact fun z => absurd z (by decide)))
    refine g_iload_n (i := 2) rfl rfl ?_
    refine g_iconst (n := 5) rfl ?_
    refine g_icmp_ne 296 rfl rfl (fun _ => ?_) (fun hc => absurd hc (by exact fun z => absurd z (by decide)))
    refine g_iload_n (i := 3) rfl rfl ?_
    refine g_virt2 rfl (by decide) rfl M.1 rfl (Nat.le_of_ble_eq_true rfl) (sDo_up (d := 2) (by omega) hnu) (fun r h_1 hq => ?_)
    obtain ⟨J1, rfl, js1, hq⟩ := hq
    cases hs1 : numS T (A + 1) 0 x3.toInt with
    | none =>
      rw [hs1] at hq
      obtain rfl := hq
      refine g_if_ne 305 rfl rfl (fun hc => absurd hc (by decide)) (fun _ => ?_)
      refine g_iconst (n := 0) rfl ?_
      refine g_ireturn (ty := .boolean) rfl rfl (by decide) ?_
      exact ⟨rfl, _, MC_0 M, mE_tr E0 (mE_set mE_rfl (by omega))⟩
    | some vp =>
      obtain ⟨v1, A1⟩ := vp
      rw [hs1] at hq
      obtain ⟨rfl, t1, p1⟩ := hq
      refine g_if_ne 305 rfl rfl (fun _ => ?_) (fun hc => absurd hc (by decide))
      have r1 : (h.set 60 (mO J1))[60]? = some (mO J1) := s_set_eq M.1
      refine g_iload_n (i := 2) rfl rfl ?_
      refine g_iconst (n := 2) rfl ?_
      refine g_icmp_ne 321 rfl rfl (fun _ => ?_) (fun hc => absurd hc (by exact fun z => absurd z (by decide)))
      refine g_iload_n (i := 2) rfl rfl ?_
      refine g_iconst (n := 3) rfl ?_
      refine g_icmp_ne 337 rfl rfl (fun _ => ?_) (fun hc => absurd hc (by exact fun z => absurd z (by decide)))
      refine g_iload_n (i := 2) rfl rfl ?_
      refine g_iconst (n := 4) rfl ?_
      refine g_icmp_ne 353 rfl rfl (fun hc => absurd hc (by exact fun z => z rfl)) (fun _ => ?_)
      refine g_aload_n (i := 0) rfl rfl ?_
      refine g_aload_n (i := 0) rfl rfl ?_
      refine g_getfield (v := .int (J1 24)) rfl r1 (by decide) rfl ?_
      rw [t1]
      refine g_putfield (h1 := h.set 60 (mO (upd J1 4 (Int32.ofNat v1)))) rfl r1 (by decide) (Nat.le_of_ble_eq_true rfl) rfl (List.set_set ..) ?_
      refine g_goto 361 rfl rfl ?_
      refine g_iconst (n := 1) rfl ?_
      refine g_ireturn (ty := .boolean) rfl rfl (by decide) ?_
      have k := jS_rt js1 hJ p1
      exact ⟨rfl, _, MC_0 M, ⟨jS_upd (jS_tr m0e.1 js1), m0e.2⟩, ⟨k.1, k.2.1, k.2.2⟩, mE_tr E0 (mE_set mE_rfl (by omega))⟩
  · skip
    have hh : hi = 20 := hhi
    subst hh
    have hnu := s_number (d := 0) (lo := Int32.ofInt 0) (hi := (Int8.ofInt 20).toInt32) M.1 a8 R hJ (by omega)
    replace hnu : sDo (0 + 2) 195 [.ref 60, .int (Int32.ofInt 0), .int ((Int8.ofInt 20).toInt32)] h (qMu h J (numS T (A + 1) 0 20)) := hnu
    refine g_iload_n (i := 2) rfl rfl ?_
    refine g_if_ne 103 rfl rfl (fun _ => ?_) (fun hc => absurd hc (by exact fun z => absurd z (by decide)))
    refine g_iload_n (i := 2) rfl rfl ?_
    refine g_iconst (n := 1) rfl ?_
    refine g_icmp_ne 185 rfl rfl (fun _ => ?_) (fun hc => absurd hc (by exact fun z => absurd z (by decide)))
    refine g_iload_n (i := 2) rfl rfl ?_
    refine g_bipush (n := 6) rfl ?_
    refine g_icmp_ne 275 rfl rfl (fun _ => ?_) (fun hc => absurd hc (by exact fun z => absurd z (by decide)))
    refine g_aload_n (i := 0) rfl rfl ?_
    refine g_iconst (n := 0) rfl ?_
    refine g_iload_n (i := 2) rfl rfl ?_
    refine g_iconst (n := 2) rfl ?_
    refine g_icmp_ne 286 rfl rfl (fun _ => ?_) (fun hc => absurd hc (by exact fun z => absurd z (by decide)))
    refine g_iload_n (i := 2) rfl rfl ?_
    refine g_iconst (n := 5) rfl ?_
    refine g_icmp_ne 296 rfl rfl (fun hc => absurd hc (by exact fun z => z rfl)) (fun _ => ?_)
    refine g_bipush (n := 20) rfl ?_
    refine g_goto 297 rfl rfl ?_
    refine g_virt2 rfl (by decide) rfl M.1 rfl (Nat.le_of_ble_eq_true rfl) (sDo_up (d := 2) (by omega) hnu) (fun r h_1 hq => ?_)
    obtain ⟨J1, rfl, js1, hq⟩ := hq
    cases hs1 : numS T (A + 1) 0 20 with
    | none =>
      rw [hs1] at hq
      obtain rfl := hq
      refine g_if_ne 305 rfl rfl (fun hc => absurd hc (by decide)) (fun _ => ?_)
      refine g_iconst (n := 0) rfl ?_
      refine g_ireturn (ty := .boolean) rfl rfl (by decide) ?_
      exact ⟨rfl, _, MC_0 M, mE_tr E0 (mE_set mE_rfl (by omega))⟩
    | some vp =>
      obtain ⟨v1, A1⟩ := vp
      rw [hs1] at hq
      obtain ⟨rfl, t1, p1⟩ := hq
      refine g_if_ne 305 rfl rfl (fun _ => ?_) (fun hc => absurd hc (by decide))
      have r1 : (h.set 60 (mO J1))[60]? = some (mO J1) := s_set_eq M.1
      refine g_iload_n (i := 2) rfl rfl ?_
      refine g_iconst (n := 2) rfl ?_
      refine g_icmp_ne 321 rfl rfl (fun _ => ?_) (fun hc => absurd hc (by exact fun z => absurd z (by decide)))
      refine g_iload_n (i := 2) rfl rfl ?_
      refine g_iconst (n := 3) rfl ?_
      refine g_icmp_ne 337 rfl rfl (fun _ => ?_) (fun hc => absurd hc (by exact fun z => absurd z (by decide)))
      refine g_iload_n (i := 2) rfl rfl ?_
      refine g_iconst (n := 4) rfl ?_
      refine g_icmp_ne 353 rfl rfl (fun _ => ?_) (fun hc => absurd hc (by exact fun z => absurd z (by decide)))
      refine g_aload_n (i := 0) rfl rfl ?_
      refine g_aload_n (i := 0) rfl rfl ?_
      refine g_getfield (v := .int (J1 24)) rfl r1 (by decide) rfl ?_
      rw [t1]
      refine g_putfield (h1 := h.set 60 (mO (upd J1 5 (Int32.ofNat v1)))) rfl r1 (by decide) (Nat.le_of_ble_eq_true rfl) rfl (List.set_set ..) ?_
      refine g_iconst (n := 1) rfl ?_
      refine g_ireturn (ty := .boolean) rfl rfl (by decide) ?_
      have k := jS_rt js1 hJ p1
      exact ⟨rfl, _, MC_0 M, ⟨jS_upd (jS_tr m0e.1 js1), m0e.2⟩, ⟨k.1, k.2.1, k.2.2⟩, mE_tr E0 (mE_set mE_rfl (by omega))⟩
theorem s_it0 {d : Nat} {h0 h : sHp} {J so ow sh fo va : Nat → Int32} {cl : Nat → Int64} {S n A : Nat} {T : Nat → Int32} {m0 : MF} {x1 x3 : Int32} {o4 o5 o6 : Option Value} (M : MC h (J, so, ow, sh, fo, va)) (m0e : mS m0 (J, so, ow, sh, fo, va)) (E0 : mE h0 h) (a8 : h[71]? = some (.inl (1, 800, .inr (.inl cl)))) (R : RT cl S n T) (hJ : rtJ J S n (A + 1)) (hA : A < 850) (hd : 3 ≤ d) (hb : T A = 32) : sGo none 199 d 56 [some (.ref 60), some (.int x1), some (.int (Int32.ofNat 0)), some (.int x3), o4, o5, o6] [] h (qIm h0 m0 S n (sizS T A)) := by
  have hn : nxtS T A 2 8 = numS T (A + 1) 2 8 := if_pos hb
  have hnu := s_number (d := 0) (lo := Int32.ofInt 2) (hi := (Int8.ofInt 8).toInt32) M.1 a8 R hJ (by omega)
  replace hnu : sDo (0 + 2) 195 [.ref 60, .int (Int32.ofInt 2), .int ((Int8.ofInt 8).toInt32)] h (qMu h J (numS T (A + 1) 2 8)) := hnu
  unfold sizS
  rw [hn]
  refine g_iload_n (i := 2) rfl rfl ?_
  refine g_if_ne 103 rfl rfl (fun hc => absurd hc (by exact fun z => z rfl)) (fun _ => ?_)
  refine g_aload_n (i := 0) rfl rfl ?_
  refine g_iconst (n := 2) rfl ?_
  refine g_bipush (n := 8) rfl ?_
  refine g_virt2 rfl (by decide) rfl M.1 rfl (Nat.le_of_ble_eq_true rfl) (sDo_up (d := 2) (by omega) hnu) (fun r h_1 hq => ?_)
  obtain ⟨J1, rfl, js1, hq⟩ := hq
  cases hs1 : numS T (A + 1) 2 8 with
  | none =>
    rw [hs1] at hq
    obtain rfl := hq
    refine g_if_ne 72 rfl rfl (fun hc => absurd hc (by decide)) (fun _ => ?_)
    refine g_iconst (n := 0) rfl ?_
    refine g_ireturn (ty := .boolean) rfl rfl (by decide) ?_
    exact ⟨rfl, _, MC_0 M, mE_tr E0 (mE_set mE_rfl (by omega))⟩
  | some vp =>
    obtain ⟨v1, A1⟩ := vp
    rw [hs1] at hq
    obtain ⟨rfl, t1, p1⟩ := hq
    refine g_if_ne 72 rfl rfl (fun _ => ?_) (fun hc => absurd hc (by decide))
    have nl := nxtS_le (hn.trans hs1)
    have r1 : (h.set 60 (mO J1))[60]? = some (mO J1) := s_set_eq M.1
    have k1 := jS_rt js1 hJ p1
    have hnx := s_next (d := 0) (lo := Int32.ofInt 2) (hi := (Int8.ofInt 8).toInt32) r1 (by rw [s_set_ne (by decide)]; exact a8) R k1 (by omega)
    replace hnx : sDo (0 + 3) 196 [.ref 60, .int (Int32.ofInt 2), .int ((Int8.ofInt 8).toInt32)] (h.set 60 (mO J1)) (qMu (h.set 60 (mO J1)) J1 (nxtS T A1 2 8)) := hnx
    dsimp only
    refine g_aload_n (i := 0) rfl rfl ?_
    refine g_getfield (v := .int (J1 24)) rfl r1 (by decide) rfl ?_
    rw [t1]
    refine g_istore (i := 4) (L1 := [some (.ref 60), some (.int x1), some (.int (Int32.ofNat 0)), some (.int x3), some (.int (Int32.ofNat v1)), o5, o6]) rfl (Nat.le_of_ble_eq_true rfl) rfl ?_
    refine g_aload_n (i := 0) rfl rfl ?_
    refine g_iconst (n := 2) rfl ?_
    refine g_bipush (n := 8) rfl ?_
    refine g_virt2 rfl (by decide) rfl r1 rfl (Nat.le_of_ble_eq_true rfl) (sDo_up (d := 3) (by omega) hnx) (fun r h_2 hq => ?_)
    obtain ⟨J2, rfl, js2, hq⟩ := hq
    cases hs2 : nxtS T A1 2 8 with
    | none =>
      rw [hs2] at hq
      obtain rfl := hq
      refine g_if_ne 90 rfl rfl (fun hc => absurd hc (by decide)) (fun _ => ?_)
      refine g_iconst (n := 0) rfl ?_
      refine g_ireturn (ty := .boolean) rfl rfl (by decide) ?_
      exact ⟨rfl, _, MC_0 (MC_0 M), mE_tr E0 (mE_set (mE_set mE_rfl (by omega)) (by omega))⟩
    | some vp =>
      obtain ⟨v2, A2⟩ := vp
      rw [hs2] at hq
      obtain ⟨rfl, t2, p2⟩ := hq
      refine g_if_ne 90 rfl rfl (fun _ => ?_) (fun hc => absurd hc (by decide))
      have M2 := MC_0 (f := J2) (MC_0 (f := J1) M)
      refine g_aload_n (i := 0) rfl rfl ?_
      refine g_iload (i := 4) rfl rfl ?_
      refine g_aload_n (i := 0) rfl rfl ?_
      refine g_getfield (v := .int (J2 24)) rfl M2.1 (by decide) rfl ?_
      rw [t2]
      refine g_virt2 rfl (by decide) rfl M2.1 rfl (Nat.le_of_ble_eq_true rfl) (sDo_up (d := 1) (by omega) (s_sizes (d := 0) (x := Int32.ofNat v1) (y := Int32.ofNat v2) M2)) (fun r h_3 hq => ?_)
      obtain ⟨rfl, q1, q2⟩ := hq
      refine g_goto 361 rfl rfl ?_
      refine g_iconst (n := 1) rfl ?_
      refine g_ireturn (ty := .boolean) rfl rfl (by decide) ?_
      have k2 := jS_rt js2 k1 p2
      have mz : mS (mfSize (Int32.ofNat v1) (Int32.ofNat v2) m0) (mfSize (Int32.ofNat v1) (Int32.ofNat v2) (J2, so, ow, sh, fo, va)) := by
        obtain ⟨b1, b2⟩ := m0e
        obtain ⟨J0, R0⟩ := m0
        have b2 : (so, ow, sh, fo, va) = R0 := b2
        subst b2
        exact ⟨jS_upd (jS_upd (jS_upd (jS_upd (jS_tr (jS_tr b1 js1) js2)))), rfl⟩
      exact ⟨rfl, _, q1, mz, ⟨k2.1, k2.2.1, k2.2.2⟩, mE_tr E0 (mE_tr (mE_set (mE_set mE_rfl (by omega)) (by omega)) q2)⟩
