/-! ===== the reference's field: the items ===== -/
def qFl (h0 : sHp) (m0 : MF) (K : Nat) (q : Option (Nat × List Act)) (h' : sHp) (goes : Int32) (K' : Nat) : Prop := ∃ m', MC h' m' ∧ mE h0 h' ∧ (match q with
  | some (k, as) => goes = 1 ∧ K' + 1 = K + k ∧ mS (as.foldl mfDo m0) m'
  | none => goes = 0)
theorem s_fld_go {d : Nat} {h0 : sHp} {cl : Nat → Int64} {S n : Nat} {T wd : Nat → Int32} {x1 x2 : Int32} {Q : Option Value → sHp → Prop} (W : WD wd) (R : RT cl S n T) (hd : 6 ≤ d) (w0 : h0[73]? = some (.inl (0, 42, .inl wd))) (a0 : h0[71]? = some (.inl (1, 800, .inr (.inl cl)))) : ∀ (f A K : Nat) (h : sHp) (m0 m : MF) (s : Sg) (o4 : Option Value) (pc : Nat), (pc = 56 ∨ pc = 124) → n < A + f → A ≤ n → K ≤ A + 1 → MC h m → mS m0 m → mE h0 h → rtJ m.1 S n A → sgJ m.1 s → (∀ (h' : sHp) (goes : Int32) (K' : Nat), K' ≤ 200 → qFl h0 m0 K (itsS T n f s A) h' goes K' → sGo none 202 d 133 [some (.ref 60), some (.int x1), some (.int x2), some (.int (Int32.ofNat K')), some (.int goes)] [] h' Q) → sGo none 202 d pc [some (.ref 60), some (.int x1), some (.int x2), some (.int (Int32.ofNat K)), o4] [] h Q := by
  obtain ⟨R1, R2, R3, R4⟩ := id R
  have en := ofN_toInt (n := n) (by omega)
  intro f
  induction f with
  | zero => intro A K h m0 m s o4 pc hpc hl hA; omega
  | succ f ih =>
    intro A K h m0 m s o4 pc hpc hl hA hK M m0e E hJ hs hQ
    obtain ⟨J, so, ow, sh, fo, va⟩ := m
    have a8 := (E.2 71 (by decide) (by decide)).trans a0
    have hit := s_itemE (d := 0) (T := T) (wd := wd) M a8 ((E.2 73 (by decide) (by decide)).trans w0) W R hJ (by omega) hs
    unfold itsS at hQ
    have go60 : ∀ (r : Option Value) (h1 : sHp), qIm h (J, so, ow, sh, fo, va) S n (itmS T A s) r h1 → sGo none 202 d 62 [some (.ref 60), some (.int x1), some (.int x2), some (.int (Int32.ofNat K)), r] [] h1 Q := by
      intro r h1 hq
      cases hi : itmS T A s with
      | none =>
        rw [hi] at hq hQ
        obtain ⟨rfl, m', M', E'⟩ := hq
        refine g_iload (i := 4) rfl rfl ?_
        refine g_if_eq 133 rfl rfl (fun _ => ?_) (fun hc => absurd hc (by exact fun z => z rfl))
        exact hQ h1 0 K (by omega) ⟨m', M', mE_tr E E', rfl⟩
      | some q =>
        obtain ⟨as, A1⟩ := q
        rw [hi] at hq hQ
        obtain ⟨rfl, m', M', ms', rt', E'⟩ := hq
        have sg := sgm_itm (m := (J, so, ow, sh, fo, va)) hi hs
        have E1 := mE_tr E E'
        have a81 := (E1.2 71 (by decide) (by decide)).trans a0
        have eA1 := ofN_toInt (n := A1) (by omega)
        have ms1 : mS (List.foldl mfDo m0 as) m' := mS_tr (mS_dos m0e as) ms'
        have s1 := sgJ_S ms'.1 sg.1
        obtain ⟨j21, j22, j23⟩ := id rt'
        dsimp only at hQ
        refine g_iload (i := 4) rfl rfl ?_
        refine g_if_eq 133 rfl rfl (fun hc => absurd hc (by decide)) (fun _ => ?_)
        refine g_aload_n (i := 0) rfl rfl ?_
        refine g_getfield (v := .int (m'.1 22)) rfl M'.1 (by decide) rfl ?_
        refine g_aload_n (i := 0) rfl rfl ?_
        refine g_getfield (v := .int (m'.1 23)) rfl M'.1 (by decide) rfl ?_
        refine g_icmp_ge 133 rfl rfl (fun c1 => ?_) (fun c1 => ?_)
        · skip
          rw [j22, j23, i_le, en, eA1] at c1
          rw [if_pos (show n ≤ A1 by omega)] at hQ
          exact hQ h1 1 K (by omega) ⟨m', M', E1, rfl, rfl, ms1⟩
        · skip
          rw [j22, j23, i_le, en, eA1] at c1
          rw [if_neg (show ¬ n ≤ A1 by omega)] at hQ
          have eb : (Int32.ofNat (100 * S)).toInt = ((100 * S : Nat) : Int) := Int32.toInt_ofNat_of_lt (by omega)
          have eba : (Int32.ofNat (100 * S) + Int32.ofNat A1).toInt = ((100 * S + A1 : Nat) : Int) := by rw [i_add (by rw [eb, eA1]; omega) (by rw [eb, eA1]; omega), eb, eA1]; omega
          refine g_aload_n (i := 0) rfl rfl ?_
          refine g_getfield (v := .ref 71) rfl M'.1 (by decide) rfl ?_
          refine g_aload_n (i := 0) rfl rfl ?_
          refine g_getfield (v := .int (m'.1 21)) rfl M'.1 (by decide) rfl ?_
          refine g_aload_n (i := 0) rfl rfl ?_
          refine g_getfield (v := .int (m'.1 22)) rfl M'.1 (by decide) rfl ?_
          refine g_iadd rfl ?_
          rw [j21, j22]
          refine g_laload (n := 800) (f := cl) rfl a81 (i_in (by omega) (by omega)) ?_
          rw [i_nat eba]
          refine g_l2i rfl ?_
          rw [R3 A1 (by omega)]
          refine g_bipush (n := 59) rfl ?_
          refine g_icmp_eq 111 rfl rfl (fun c2 => ?_) (fun c2 => ?_)
          · skip
            rw [if_pos (show T A1 = 59 from c2)] at hQ
            refine g_aload_n (i := 0) rfl rfl ?_
            refine g_dup rfl rfl ?_
            refine g_getfield (v := .int (m'.1 22)) rfl M'.1 (by decide) rfl ?_
            refine g_iconst (n := 1) rfl ?_
            refine g_iadd rfl ?_
            rw [j22, ofN_add (by omega)]
            refine g_putfield (h1 := h1.set 60 (mO (upd m'.1 22 (Int32.ofNat (A1 + 1))))) rfl M'.1 (by decide) (Nat.le_of_ble_eq_true rfl) rfl rfl ?_
            refine g_iinc (i := 3) (L1 := [some (.ref 60), some (.int x1), some (.int x2), some (.int ((Int32.ofNat K) + Int32.ofInt 1)), some (.int 1)]) rfl rfl rfl ?_
            rw [ofN_add (by omega)]
            refine ih (A1 + 1) (K + 1) _ (List.foldl mfDo m0 as) (upd m'.1 22 (Int32.ofNat (A1 + 1)), m'.2) _ (some (.int 1)) 124 (Or.inr rfl) (by omega) (by omega) (by omega) (MC_0 M') ⟨jS_up ms1.1 (by omega), ms1.2⟩ (mE_set E1 (by omega)) ⟨j21, rfl, j23⟩ (sgJ_S (jS_up (jS_rfl _) (by omega)) s1) (fun h2 goes K' hk' hq' => hQ h2 goes K' hk' ?_)
            obtain ⟨m2, M2, E2, hq'⟩ := hq'
            refine ⟨m2, M2, E2, ?_⟩
            cases hz : itsS T n f (List.foldl sgDo s as) (A1 + 1) with
            | none => rw [hz] at hq'; exact hq'
            | some kb =>
              obtain ⟨k, bs⟩ := kb
              rw [hz] at hq'
              dsimp only at hq' ⊢
              rw [List.foldl_append]
              exact ⟨hq'.1, by omega, hq'.2.2⟩
          · skip
            rw [if_neg (show ¬ T A1 = 59 from c2)] at hQ
            refine g_aload_n (i := 0) rfl rfl ?_
            refine g_aload_n (i := 0) rfl rfl ?_
            refine g_getfield (v := .int (m'.1 22)) rfl M'.1 (by decide) rfl ?_
            refine g_virt1 (Qc := fun r h' => r = some (.int 0) ∧ h' = h1.set 60 (mO (upd m'.1 25 (m'.1 22)))) rfl (by decide) rfl M'.1 rfl (Nat.le_of_ble_eq_true rfl) (sDo_up (d := 1) (by omega) (s_wrongE (d := 0) M'.1)) (fun r h9 hq9 => ?_)
            obtain ⟨rfl, rfl⟩ := hq9
            refine g_istore (i := 4) (L1 := [some (.ref 60), some (.int x1), some (.int x2), some (.int (Int32.ofNat K)), some (.int 0)]) rfl (Nat.le_of_ble_eq_true rfl) rfl ?_
            refine g_goto 62 rfl rfl ?_
            refine g_iload (i := 4) rfl rfl ?_
            refine g_if_eq 133 rfl rfl (fun _ => ?_) (fun hc => absurd hc (by exact fun z => z rfl))
            exact hQ _ 0 K (by omega) ⟨_, MC_0 M', mE_set E1 (by omega), rfl⟩
    rcases hpc with rfl | rfl
    · skip
      refine g_aload_n (i := 0) rfl rfl ?_
      refine g_virt0 rfl (by decide) rfl M.1 rfl (Nat.le_of_ble_eq_true rfl) (sDo_up (d := 6) (by omega) hit) (fun r h1 hq => ?_)
      have key := go60 r h1 hq
      have hb : r = some (.int 0) ∨ r = some (.int 1) := by
        unfold qIm at hq
        split at hq
        · exact Or.inr hq.1
        · exact Or.inl hq.1
      rcases hb with rfl | rfl
      · skip
        refine g_istore (i := 4) (L1 := [some (.ref 60), some (.int x1), some (.int x2), some (.int (Int32.ofNat K)), some (.int 0)]) rfl (Nat.le_of_ble_eq_true rfl) rfl ?_
        exact key
      · skip
        refine g_istore (i := 4) (L1 := [some (.ref 60), some (.int x1), some (.int x2), some (.int (Int32.ofNat K)), some (.int 1)]) rfl (Nat.le_of_ble_eq_true rfl) rfl ?_
        exact key
    · skip
      refine g_aload_n (i := 0) rfl rfl ?_
      refine g_virt0 rfl (by decide) rfl M.1 rfl (Nat.le_of_ble_eq_true rfl) (sDo_up (d := 6) (by omega) hit) (fun r h1 hq => ?_)
      have key := go60 r h1 hq
      have hb : r = some (.int 0) ∨ r = some (.int 1) := by
        unfold qIm at hq
        split at hq
        · exact Or.inr hq.1
        · exact Or.inl hq.1
      rcases hb with rfl | rfl
      · skip
        refine g_istore (i := 4) (L1 := [some (.ref 60), some (.int x1), some (.int x2), some (.int (Int32.ofNat K)), some (.int 0)]) rfl (Nat.le_of_ble_eq_true rfl) rfl ?_
        refine g_goto 62 rfl rfl ?_
        exact key
      · skip
        refine g_istore (i := 4) (L1 := [some (.ref 60), some (.int x1), some (.int x2), some (.int (Int32.ofNat K)), some (.int 1)]) rfl (Nat.le_of_ble_eq_true rfl) rfl ?_
        refine g_goto 62 rfl rfl ?_
        exact key
