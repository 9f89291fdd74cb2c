/-! ===== the reference's items: soil, heirs ===== -/
def slF (so : Nat → Int32) (v : Int32) (fr k : Nat) : Nat → Int32 := fun i => if fr ≤ i ∧ i < k then v else so i
theorem slF_s (so : Nat → Int32) (v : Int32) (fr k : Nat) (h : fr ≤ k) : upd (slF so v fr k) k v = slF so v fr (k + 1) := funext fun i => by
  unfold upd slF
  by_cases e : i = k
  · rw [if_pos e, if_pos (show fr ≤ i ∧ i < k + 1 by omega)]
  · rw [if_neg e]
    by_cases h2 : fr ≤ i ∧ i < k
    · rw [if_pos h2, if_pos (show fr ≤ i ∧ i < k + 1 by omega)]
    · rw [if_neg h2, if_neg (show ¬ (fr ≤ i ∧ i < k + 1) by omega)]
theorem s_it1_go {d : Nat} {h0 : sHp} {J so ow sh fo va : Nat → Int32} {v fr to : Nat} {x1 x3 : Int32} {Q : Option Value → sHp → Prop} (t24 : J 24 = Int32.ofNat to) (hto : to ≤ 63) (hQ : ∀ (h : sHp) (x : Int32), MC h (J, slF so (Int32.ofNat v) fr (to + 1), ow, sh, fo, va) → mE h0 h → sGo none 199 d 182 [some (.ref 60), some (.int x1), some (.int (Int32.ofNat 1)), some (.int x3), some (.int (Int32.ofNat v)), some (.int (Int32.ofNat fr)), some (.int x)] [] h Q) : ∀ (f k : Nat) (h : sHp), f + k = to + 1 → fr ≤ k → MC h (J, slF so (Int32.ofNat v) fr k, ow, sh, fo, va) → mE h0 h → sGo none 199 d 158 [some (.ref 60), some (.int x1), some (.int (Int32.ofNat 1)), some (.int x3), some (.int (Int32.ofNat v)), some (.int (Int32.ofNat fr)), some (.int (Int32.ofNat k))] [] h Q := by
  have et := ofN_toInt (n := to) (by omega)
  intro f
  induction f with
  | zero =>
    intro k h hk hf M E
    have ek := ofN_toInt (n := k) (by omega)
    refine g_iload (i := 6) rfl rfl ?_
    refine g_aload_n (i := 0) rfl rfl ?_
    refine g_getfield (v := .int (J 24)) rfl M.1 (by decide) rfl ?_
    refine g_icmp_gt 182 rfl rfl (fun _ => ?_) (fun hc => absurd hc (by rw [t24, i_lt, et, ek]; omega))
    rw [show k = to + 1 by omega] at M
    exact hQ h _ M E
  | succ f ih =>
    intro k h hk hf M E
    have ek := ofN_toInt (n := k) (by omega)
    refine g_iload (i := 6) rfl rfl ?_
    refine g_aload_n (i := 0) rfl rfl ?_
    refine g_getfield (v := .int (J 24)) rfl M.1 (by decide) rfl ?_
    refine g_icmp_gt 182 rfl rfl (fun hc => absurd hc (by rw [t24, i_lt, et, ek]; omega)) (fun _ => ?_)
    refine g_aload_n (i := 0) rfl rfl ?_
    refine g_getfield (v := .ref 62) rfl M.1 (by decide) rfl ?_
    refine g_iload (i := 6) rfl rfl ?_
    refine g_iload (i := 4) rfl rfl ?_
    refine g_iastore (h1 := h.set 62 (.inl (0, 64, .inl (slF so (Int32.ofNat v) fr (k + 1))))) rfl M.2.1 (i_in (by omega) (by omega)) (by rw [i_nat ek]; exact congrArg (fun e => h.set 62 (.inl (0, 64, .inl e))) (slF_s so _ fr k hf)) ?_
    refine g_iinc (i := 6) (L1 := [some (.ref 60), some (.int x1), some (.int (Int32.ofNat 1)), some (.int x3), some (.int (Int32.ofNat v)), some (.int (Int32.ofNat fr)), some (.int ((Int32.ofNat k) + Int32.ofInt 1))]) rfl rfl rfl ?_
    rw [ofN_add (by omega)]
    refine g_goto 158 rfl rfl ?_
    exact ih (k + 1) _ (by omega) (by omega) (MC_1 M) (mE_set E (by omega))
theorem s_it1 {d : Nat} {h0 h : sHp} {J so ow sh fo va : Nat → Int32} {cl : Nat → Int64} {S n A : Nat} {T : Nat → Int32} {m0 : MF} {x1 x3 : Int32} {o4 o5 o6 : Option Value} (M : MC h (J, so, ow, sh, fo, va)) (m0e : mS m0 (J, so, ow, sh, fo, va)) (E0 : mE h0 h) (a8 : h[71]? = some (.inl (1, 800, .inr (.inl cl)))) (R : RT cl S n T) (hJ : rtJ J S n (A + 1)) (hA : A < 850) (hd : 3 ≤ d) (hb : T A = 32) (hx3 : x3.toInt ≤ 63) : sGo none 199 d 56 [some (.ref 60), some (.int x1), some (.int (Int32.ofNat 1)), some (.int x3), o4, o5, o6] [] h (qIm h0 m0 S n (soiS T A x3.toInt)) := by
  have hn : nxtS T A 0 5 = numS T (A + 1) 0 5 := if_pos hb
  have hnu := s_number (d := 0) (lo := Int32.ofInt 0) (hi := Int32.ofInt 5) M.1 a8 R hJ (by omega)
  replace hnu : sDo (0 + 2) 195 [.ref 60, .int (Int32.ofInt 0), .int (Int32.ofInt 5)] h (qMu h J (numS T (A + 1) 0 5)) := hnu
  unfold soiS
  rw [hn]
  refine g_iload_n (i := 2) rfl rfl ?_
  refine g_if_ne 103 rfl rfl (fun _ => ?_) (fun hc => absurd hc (by exact fun z => absurd z (by decide)))
  refine g_iload_n (i := 2) rfl rfl ?_
  refine g_iconst (n := 1) rfl ?_
  refine g_icmp_ne 185 rfl rfl (fun hc => absurd hc (by exact fun z => z rfl)) (fun _ => ?_)
  refine g_aload_n (i := 0) rfl rfl ?_
  refine g_iconst (n := 0) rfl ?_
  refine g_iconst (n := 5) rfl ?_
  refine g_virt2 rfl (by decide) rfl M.1 rfl (Nat.le_of_ble_eq_true rfl) (sDo_up (d := 2) (by omega) hnu) (fun r h_1 hq => ?_)
  obtain ⟨J1, rfl, js1, hq⟩ := hq
  cases hs1 : numS T (A + 1) 0 5 with
  | none =>
    rw [hs1] at hq
    obtain rfl := hq
    refine g_if_ne 119 rfl rfl (fun hc => absurd hc (by decide)) (fun _ => ?_)
    refine g_iconst (n := 0) rfl ?_
    refine g_ireturn (ty := .boolean) rfl rfl (by decide) ?_
    exact ⟨rfl, _, MC_0 M, mE_tr E0 (mE_set mE_rfl (by omega))⟩
  | some vp =>
    obtain ⟨v1, A1⟩ := vp
    rw [hs1] at hq
    obtain ⟨rfl, t1, p1⟩ := hq
    refine g_if_ne 119 rfl rfl (fun _ => ?_) (fun hc => absurd hc (by decide))
    have nl := nxtS_le (hn.trans hs1)
    have r1 : (h.set 60 (mO J1))[60]? = some (mO J1) := s_set_eq M.1
    have k1 := jS_rt js1 hJ p1
    have hnx := s_next (d := 0) (lo := Int32.ofInt 0) (hi := x3) r1 (by rw [s_set_ne (by decide)]; exact a8) R k1 (by omega)
    replace hnx : sDo (0 + 3) 196 [.ref 60, .int (Int32.ofInt 0), .int x3] (h.set 60 (mO J1)) (qMu (h.set 60 (mO J1)) J1 (nxtS T A1 0 x3.toInt)) := hnx
    dsimp only
    refine g_aload_n (i := 0) rfl rfl ?_
    refine g_getfield (v := .int (J1 24)) rfl r1 (by decide) rfl ?_
    rw [t1]
    refine g_istore (i := 4) (L1 := [some (.ref 60), some (.int x1), some (.int (Int32.ofNat 1)), some (.int x3), some (.int (Int32.ofNat v1)), o5, o6]) rfl (Nat.le_of_ble_eq_true rfl) rfl ?_
    refine g_aload_n (i := 0) rfl rfl ?_
    refine g_iconst (n := 0) rfl ?_
    refine g_iload_n (i := 3) rfl rfl ?_
    refine g_virt2 rfl (by decide) rfl r1 rfl (Nat.le_of_ble_eq_true rfl) (sDo_up (d := 3) (by omega) hnx) (fun r h_2 hq => ?_)
    obtain ⟨J2, rfl, js2, hq⟩ := hq
    cases hs2 : nxtS T A1 0 x3.toInt with
    | none =>
      rw [hs2] at hq
      obtain rfl := hq
      refine g_if_ne 136 rfl rfl (fun hc => absurd hc (by decide)) (fun _ => ?_)
      refine g_iconst (n := 0) rfl ?_
      refine g_ireturn (ty := .boolean) rfl rfl (by decide) ?_
      exact ⟨rfl, _, MC_0 (MC_0 M), mE_tr E0 (mE_set (mE_set mE_rfl (by omega)) (by omega))⟩
    | some vp =>
      obtain ⟨v2, A2⟩ := vp
      rw [hs2] at hq
      obtain ⟨rfl, t2, p2⟩ := hq
      refine g_if_ne 136 rfl rfl (fun _ => ?_) (fun hc => absurd hc (by decide))
      have nl2 := nxtS_le hs2
      have ev2 := ofN_toInt (n := v2) (by omega)
      have M2 := MC_0 (f := J2) (MC_0 (f := J1) M)
      have k2 := jS_rt js2 k1 p2
      have hny := s_next (d := 0) (lo := Int32.ofNat v2) (hi := x3) M2.1 (by rw [s_set_ne (by decide), s_set_ne (by decide)]; exact a8) R k2 (by omega)
      rw [ev2] at hny
      dsimp only
      refine g_aload_n (i := 0) rfl rfl ?_
      refine g_getfield (v := .int (J2 24)) rfl M2.1 (by decide) rfl ?_
      rw [t2]
      refine g_istore (i := 5) (L1 := [some (.ref 60), some (.int x1), some (.int (Int32.ofNat 1)), some (.int x3), some (.int (Int32.ofNat v1)), some (.int (Int32.ofNat v2)), o6]) rfl (Nat.le_of_ble_eq_true rfl) rfl ?_
      refine g_aload_n (i := 0) rfl rfl ?_
      refine g_iload (i := 5) rfl rfl ?_
      refine g_iload_n (i := 3) rfl rfl ?_
      refine g_virt2 rfl (by decide) rfl M2.1 rfl (Nat.le_of_ble_eq_true rfl) (sDo_up (d := 3) (by omega) hny) (fun r h_3 hq => ?_)
      obtain ⟨J3, rfl, js3, hq⟩ := hq
      cases hs3 : nxtS T A2 v2 x3.toInt with
      | none =>
        rw [hs3] at hq
        obtain rfl := hq
        refine g_if_ne 154 rfl rfl (fun hc => absurd hc (by decide)) (fun _ => ?_)
        refine g_iconst (n := 0) rfl ?_
        refine g_ireturn (ty := .boolean) rfl rfl (by decide) ?_
        exact ⟨rfl, _, MC_0 M2, mE_tr E0 (mE_set (mE_set (mE_set mE_rfl (by omega)) (by omega)) (by omega))⟩
      | some vp =>
        obtain ⟨v3, A3⟩ := vp
        rw [hs3] at hq
        obtain ⟨rfl, t3, p3⟩ := hq
        refine g_if_ne 154 rfl rfl (fun _ => ?_) (fun hc => absurd hc (by decide))
        have nl3 := nxtS_le hs3
        have M3 := MC_0 (f := J3) M2
        have k3 := jS_rt js3 k2 p3
        refine g_iload (i := 5) rfl rfl ?_
        refine g_istore (i := 6) (L1 := [some (.ref 60), some (.int x1), some (.int (Int32.ofNat 1)), some (.int x3), some (.int (Int32.ofNat v1)), some (.int (Int32.ofNat v2)), some (.int (Int32.ofNat v2))]) rfl (Nat.le_of_ble_eq_true rfl) rfl ?_
        have sl0 : slF so (Int32.ofNat v1) v2 v2 = so := funext fun i => if_neg (by omega)
        refine s_it1_go (h0 := h0) (so := so) t3 (by omega) (fun h4 x M4 E4 => ?_) (v3 + 1 - v2) v2 _ (by omega) (Nat.le_refl _) (by rw [sl0]; exact M3) (mE_tr E0 (mE_set (mE_set (mE_set mE_rfl (by omega)) (by omega)) (by omega)))
        refine g_goto 361 rfl rfl ?_
        refine g_iconst (n := 1) rfl ?_
        refine g_ireturn (ty := .boolean) rfl rfl (by decide) ?_
        have mz : mS (mfDo m0 (1, v1, v2, v3)) (J3, slF so (Int32.ofNat v1) v2 (v3 + 1), ow, sh, fo, va) := by
          obtain ⟨b1, b2⟩ := m0e
          obtain ⟨J0, R0⟩ := m0
          have b2 : (so, ow, sh, fo, va) = R0 := b2
          subst b2
          have es : (fun i => if v2 ≤ i ∧ i ≤ v3 then Int32.ofNat v1 else so i) = slF so (Int32.ofNat v1) v2 (v3 + 1) := funext fun i => by
            unfold slF
            by_cases c : v2 ≤ i ∧ i ≤ v3
            · rw [if_pos c, if_pos (show v2 ≤ i ∧ i < v3 + 1 by omega)]
            · rw [if_neg c, if_neg (show ¬ (v2 ≤ i ∧ i < v3 + 1) by omega)]
          refine ⟨jS_tr (jS_tr (jS_tr b1 js1) js2) js3, ?_⟩
          show (slF so (Int32.ofNat v1) v2 (v3 + 1), ow, sh, fo, va) = ((fun i => if v2 ≤ i ∧ i ≤ v3 then Int32.ofNat v1 else so i), ow, sh, fo, va)
          rw [es]
        exact ⟨rfl, _, M4, mz, k3, E4⟩
