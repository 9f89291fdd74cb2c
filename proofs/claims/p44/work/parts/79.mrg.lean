section
/-! ===== act and trace: pairs ===== -/
theorem rf_p {k : Nat} {S : Nat} {s : Int32} {co : Nat → Int32} (hs : s.toInt = S) (hS : S < 8) (c0 : 0 ≤ (co S).toInt) (h7 : k < 7) (hk : (co S).toInt / 1000 = (k : Nat)) : bGx 2 249 k S s co (pv k s (cD (co S) (Int8.ofInt 100).toInt32)) (pL k) := by
  match k, h7, hk with
  | 0, _, hk => exact gp_0 (d := 0) hs hS c0 hk
  | 1, _, hk => exact gp_1 (d := 0) hs hS c0 hk
  | 2, _, hk => exact gp_2 (d := 0) hs hS c0 hk
  | 3, _, hk => exact gp_3 (d := 0) hs hS c0 hk
  | 4, _, hk => exact gp_4 (d := 0) hs hS c0 hk
  | 5, _, hk => exact gp_5 (d := 0) hs hS c0 hk
  | 6, _, hk => exact gp_6 (d := 0) hs hS c0 hk
  | k + 7, h7, hk => exact absurd h7 (by omega)
theorem rf_w {k : Nat} {S : Nat} {s : Int32} {co : Nat → Int32} (hs : s.toInt = S) (hS : S < 8) (c0 : 0 ≤ (co S).toInt) (h7 : k < 7) (hk : (co S).toInt / 1000 = (k : Nat)) : bGx 3 250 k S s co (wv k s (cD (co S) (Int8.ofInt 100).toInt32)) (wL k) := by
  match k, h7, hk with
  | 0, _, hk => exact gw_0 (d := 0) hs hS c0 hk
  | 1, _, hk => exact gw_1 (d := 0) hs hS c0 hk
  | 2, _, hk => exact gw_2 (d := 0) hs hS c0 hk
  | 3, _, hk => exact gw_3 (d := 0) hs hS c0 hk
  | 4, _, hk => exact gw_4 (d := 0) hs hS c0 hk
  | 5, _, hk => exact gw_5 (d := 0) hs hS c0 hk
  | 6, _, hk => exact gw_6 (d := 0) hs hS c0 hk
  | k + 7, h7, hk => exact absurd h7 (by omega)
theorem rf_h {k : Nat} {S : Nat} {s : Int32} {co : Nat → Int32} (hs : s.toInt = S) (hS : S < 8) (c0 : 0 ≤ (co S).toInt) (h7 : k < 7) (hk : (co S).toInt / 1000 = (k : Nat)) : bGx 4 251 k S s co (hv k s (cD (co S) (Int8.ofInt 100).toInt32)) (hL k) := by
  match k, h7, hk with
  | 0, _, hk => exact gh_0 (d := 0) hs hS c0 hk
  | 1, _, hk => exact gh_1 (d := 0) hs hS c0 hk
  | 2, _, hk => exact gh_2 (d := 0) hs hS c0 hk
  | 3, _, hk => exact gh_3 (d := 0) hs hS c0 hk
  | 4, _, hk => exact gh_4 (d := 0) hs hS c0 hk
  | 5, _, hk => exact gh_5 (d := 0) hs hS c0 hk
  | 6, _, hk => exact gh_6 (d := 0) hs hS c0 hk
  | k + 7, h7, hk => exact absurd h7 (by omega)
def aV (k : Nat) (a : Int) (s c x : Int32) : Int32 := if a = 0 then pv k s c x else if a = 1 then wv k s c x else if a = 2 then hv k s c x else 0
def aLs (k : Nat) (a : Int) : List Int32 := if a = 0 then pL k else if a = 1 then wL k else if a = 2 then hL k else []
theorem aLs_len {k : Nat} {a : Int} (h : k < 7) : (aLs k a).length ≤ 20 := by
  unfold aLs
  split
  · match k, h with
    | 0, _ | 1, _ | 2, _ | 3, _ | 4, _ | 5, _ | 6, _ => decide
    | k + 7, h => omega
  · split
    · match k, h with
      | 0, _ | 1, _ | 2, _ | 3, _ | 4, _ | 5, _ | 6, _ => decide
      | k + 7, h => omega
    · split
      · match k, h with
        | 0, _ | 1, _ | 2, _ | 3, _ | 4, _ | 5, _ | 6, _ => decide
        | k + 7, h => omega
      · decide
theorem s_noCut {d : Nat} {h : sHp} {fs : List Value} {f g : Nat → Option Nat} {s : Int32} {S : Nat} {ot z nc : Int32} (hf : h[0]? = some (.inr (11, fs))) (f0 : fs[0]? = some (.ref 1)) (f1 : fs[1]? = some (.ref 2)) (a1 : h[1]? = some (.inl (3, 8, .inr (.inr (.inr (.inr f)))))) (a2 : ∀ s, s < 8 → f s = some (44 + 2 * s)) (a3 : h[2]? = some (.inl (4, 8, .inr (.inr (.inr (.inr g)))))) (hs : s.toInt = S) (hS : S < 8) (b1 : h[44 + 2 * S]? = some (.inr (7, [.int ot, .int z, .ref (45 + 2 * S)]))) (hn : (¬ ot = -1 ∧ nc = -2) ∨ (g S = none ∧ ot = -1 ∧ nc = -3) ∨ (∃ p, g S = some p ∧ ot = -1 ∧ nc = 0)) : sDo (d + 2) 162 [.ref 0, .int s] h (fun r h' => h' = h ∧ r = some (.int nc)) := by
  have sn : s.toNatClampNeg = S := i_nat hs
  have fS : va_rf (f s.toNatClampNeg) = .ref (44 + 2 * S) := by rw [sn, a2 S hS]; rfl
  refine sDo_of (d := d + 1) (nL := 2) (L := [some (.ref 0), some (.int s)]) rfl rfl ?_
  refine g_iload_n (i := 1) rfl rfl ?_
  refine g_static1 (Qc := fun r h' => h' = h ∧ r = some (.int 1)) rfl (by decide) rfl (Nat.le_of_ble_eq_true rfl) (s_sh11 (by rw [if_pos (by omega)])) (fun r h9 hq9 => ?_)
  obtain ⟨rfl, rfl⟩ := hq9
  refine g_if_ne 9 rfl rfl (fun _ => ?_) (fun hc => absurd hc (by decide))
  refine g_aload_n (i := 0) rfl rfl ?_
  refine g_getfield (v := .ref 1) rfl hf (by decide) f0 ?_
  refine g_iload_n (i := 1) rfl rfl ?_
  refine g_aaload rfl a1 (by decide) (i_in (by omega) (by omega)) ?_
  rw [fS]
  rcases hn with ⟨ho, rfl⟩ | ⟨hg, ho, rfl⟩ | ⟨p, hg, ho, rfl⟩
  · skip
    refine g_virt0 (Qc := fun r h' => h' = h9 ∧ r = some (.int 1)) rfl (by decide) rfl b1 rfl (Nat.le_of_ble_eq_true rfl) (s_isHeld b1 (by rw [if_neg ho])) (fun r h8 hq9 => ?_)
    obtain ⟨rfl, rfl⟩ := hq9
    refine g_if_eq 24 rfl rfl (fun hc => absurd hc (by decide)) (fun _ => ?_)
    refine g_bipush (n := (-2)) rfl ?_
    refine g_ireturn (ty := .int) rfl rfl rfl ?_
    exact ⟨rfl, rfl⟩
  · skip
    refine g_virt0 (Qc := fun r h' => h' = h9 ∧ r = some (.int 0)) rfl (by decide) rfl b1 rfl (Nat.le_of_ble_eq_true rfl) (s_isHeld b1 (by rw [if_pos ho])) (fun r h8 hq9 => ?_)
    obtain ⟨rfl, rfl⟩ := hq9
    refine g_if_eq 24 rfl rfl (fun _ => ?_) (fun hc => absurd hc (by decide))
    refine g_aload_n (i := 0) rfl rfl ?_
    refine g_getfield (v := .ref 2) rfl hf (by decide) f1 ?_
    refine g_iload_n (i := 1) rfl rfl ?_
    have hgS : va_rf (g s.toNatClampNeg) = .null := by rw [sn, hg]; rfl
    refine g_aaload rfl a3 (by decide) (i_in (by omega) (by omega)) ?_
    rw [hgS]
    refine g_ifnullN 37 rfl rfl ?_
    refine g_bipush (n := (-3)) rfl ?_
    refine g_ireturn (ty := .int) rfl rfl rfl ?_
    exact ⟨rfl, rfl⟩
  · skip
    refine g_virt0 (Qc := fun r h' => h' = h9 ∧ r = some (.int 0)) rfl (by decide) rfl b1 rfl (Nat.le_of_ble_eq_true rfl) (s_isHeld b1 (by rw [if_pos ho])) (fun r h8 hq9 => ?_)
    obtain ⟨rfl, rfl⟩ := hq9
    refine g_if_eq 24 rfl rfl (fun _ => ?_) (fun hc => absurd hc (by decide))
    refine g_aload_n (i := 0) rfl rfl ?_
    refine g_getfield (v := .ref 2) rfl hf (by decide) f1 ?_
    refine g_iload_n (i := 1) rfl rfl ?_
    have hgS : va_rf (g s.toNatClampNeg) = .ref p := by rw [sn, hg]; rfl
    refine g_aaload rfl a3 (by decide) (i_in (by omega) (by omega)) ?_
    rw [hgS]
    refine g_ifnull 37 rfl rfl ?_
    refine g_iconst (n := 0) rfl ?_
    refine g_goto 39 rfl rfl ?_
    refine g_ireturn (ty := .int) rfl rfl rfl ?_
    exact ⟨rfl, rfl⟩
theorem s_noCutO {d : Nat} {h : sHp} {s : Int32} (hs : ¬ (0 ≤ s.toInt ∧ s.toInt < 8)) : sDo (d + 2) 162 [.ref 0, .int s] h (fun r h' => h' = h ∧ r = some (.int (-1))) := by
  refine sDo_of (d := d + 1) (nL := 2) (L := [some (.ref 0), some (.int s)]) rfl rfl ?_
  refine g_iload_n (i := 1) rfl rfl ?_
  refine g_static1 (Qc := fun r h' => h' = h ∧ r = some (.int 0)) rfl (by decide) rfl (Nat.le_of_ble_eq_true rfl) (s_sh11 (by rw [if_neg hs])) (fun r h9 hq9 => ?_)
  obtain ⟨rfl, rfl⟩ := hq9
  refine g_if_ne 9 rfl rfl (fun hc => absurd hc (by decide)) (fun _ => ?_)
  refine g_iconst (n := (-1)) rfl ?_
  refine g_ireturn (ty := .int) rfl rfl rfl ?_
  exact ⟨rfl, rfl⟩
theorem s_act11 {h : sHp} {fs : List Value} {l0 : List Int32} {s a x nc y : Int32} {L : List Int32} (hf : h[0]? = some (.inr (11, fs))) (f1 : fs[1]? = some (.ref 2)) (f2 : fs[2]? = some (.ref 3)) (t : tC h l0) (hnc : ∀ h1, tE h h1 → sDo 2 162 [.ref 0, .int s] h1 (fun r h' => h' = h1 ∧ r = some (.int nc))) (hx : (¬ nc = 0 ∧ y = 0 ∧ L = []) ∨ (nc = 0 ∧ (a.toInt < 0 ∨ 2 < a.toInt) ∧ y = 0 ∧ L = []) ∨ (nc = 0 ∧ ∃ (g : Nat → Option Nat) (S p k : Nat) (c : Int32), h[2]? = some (.inl (4, 8, .inr (.inr (.inr (.inr g))))) ∧ s.toInt = S ∧ S < 8 ∧ g S = some p ∧ 79 ≤ p ∧ k < 7 ∧ h[p]? = some (.inr (bKl7 k, cutFs s c)) ∧ bKl7 k ∈ bCutL ∧ ((a.toInt = 0 ∧ y = pv k s (cD c (Int8.ofInt 100).toInt32) x ∧ L = pL k) ∨ (a.toInt = 1 ∧ y = wv k s (cD c (Int8.ofInt 100).toInt32) x ∧ L = wL k) ∨ (a.toInt = 2 ∧ y = hv k s (cD c (Int8.ofInt 100).toInt32) x ∧ L = hL k)))) (hL : L.length ≤ 20) : sDo 10 152 [.ref 0, .int s, .int a, .int x] h (fun r h' => r = some (.int y) ∧ tE h h' ∧ tC h' L) := by
  obtain ⟨so, el, h3, h4, -⟩ := t
  refine sDo_of (d := 9) (nL := 4) (L := [some (.ref 0), some (.int s), some (.int a), some (.int x)]) rfl rfl ?_
  refine g_aload_n (i := 0) rfl rfl ?_
  refine g_getfield (v := .ref 3) rfl hf (by decide) f2 ?_
  refine g_iconst (n := 2) rfl ?_
  refine g_iconst (n := 0) rfl ?_
  refine g_virt2 (Qc := fun r h' => r = none ∧ tE h h' ∧ tC h' []) rfl (by decide) rfl h3 rfl (Nat.le_of_ble_eq_true rfl) (sDo_up (d := 1) (by decide) (s_renew (d := 0) h3 h4 (by decide) (by decide) (by decide) (fun el' hel => ⟨rfl, ⟨_, _, List.set_comm (i := 3) (j := 4) _ _ (by decide)⟩, Int32.ofInt 2, el', ?_, ?_, fun i v hv => by cases hv⟩))) (fun r h1 hq => ?_)
  · rw [s_set_ne (by decide)]; exact s_set_eq h3
  · exact s_set_eq (by rw [s_set_ne (by decide)]; exact h4)
  obtain ⟨rfl, e1, t1⟩ := hq
  have hf1 := (tE_at e1 (p := 0) (by decide) (by decide)).trans hf
  refine g_aload_n (i := 0) rfl rfl ?_
  refine g_iload_n (i := 1) rfl rfl ?_
  refine g_virt1 rfl (by decide) rfl hf1 rfl (Nat.le_of_ble_eq_true rfl) (sDo_up (d := 2) (by decide) (hnc h1 e1)) (fun r h2 hq => ?_)
  obtain ⟨rfl, rfl⟩ := hq
  rcases hx with ⟨n0, rfl, rfl⟩ | ⟨n0, ha, rfl, rfl⟩ | ⟨n0, g, S, p, k, c, a3, hs, hS, hgS, hp3, hk, hp, hc, hx⟩
  · skip
    refine g_if_eq 19 rfl rfl (fun hc => absurd hc (by exact n0)) (fun _ => ?_)
    refine g_iconst (n := 0) rfl ?_
    refine g_ireturn (ty := .int) rfl rfl rfl ?_
    exact ⟨rfl, e1, t1⟩
  · skip
    refine g_if_eq 19 rfl rfl (fun _ => ?_) (fun hc => absurd hc (by exact fun z => z n0))
    refine g_iload_n (i := 2) rfl rfl ?_
    have hF : sFk 152 20 = some (.tableswitch 61 0 2 #[28, 39, 50]) := rfl
    refine go_jmp (pc1 := 81) (st1 := []) hF rfl ?_ ?_
    · show (if a.toInt < 0 ∨ 2 < a.toInt then (sTgt 20 61).map (fun t => (t, ([] : List Value))) else _) = _
      rw [if_pos ha]; rfl
    · skip
      refine g_iconst (n := 0) rfl ?_
      refine g_ireturn (ty := .int) rfl rfl rfl ?_
      exact ⟨rfl, e1, t1⟩
  · skip
    refine g_if_eq 19 rfl rfl (fun _ => ?_) (fun hc => absurd hc (by exact fun z => z n0))
    refine g_iload_n (i := 2) rfl rfl ?_
    have hF : sFk 152 20 = some (.tableswitch 61 0 2 #[28, 39, 50]) := rfl
    have sn : s.toNatClampNeg = S := i_nat hs
    have fG : va_rf (g s.toNatClampNeg) = .ref p := by rw [sn, hgS]; rfl
    have a31 := (tE_at e1 (p := 2) (by decide) (by decide)).trans a3
    have hp1 := (tE_at e1 (p := p) (by omega) (by omega)).trans hp
    obtain ⟨hg2, hg3, -⟩ := cut_ty hc
    rcases hx with ⟨ha, rfl, rfl⟩ | ⟨ha, rfl, rfl⟩ | ⟨ha, rfl, rfl⟩
    · skip
      refine go_jmp (pc1 := 48) (st1 := []) hF rfl ?_ ?_
      · show (if a.toInt < 0 ∨ 2 < a.toInt then _ else (match #[(28 : Int), 39, 50][(a.toInt - 0).toNat]? with
          | some off => (sTgt 20 off).map (fun t => (t, ([] : List Value)))
          | none => none)) = _
        rw [if_neg (by omega), show (a.toInt - 0).toNat = 0 by omega]; rfl
      · skip
        refine g_aload_n (i := 0) rfl rfl ?_
        refine g_getfield (v := .ref 2) rfl hf1 (by decide) f1 ?_
        refine g_iload_n (i := 1) rfl rfl ?_
        refine g_aaload rfl a31 (by decide) (i_in (by omega) (by omega)) ?_
        rw [fG]
        refine g_iload_n (i := 3) rfl rfl ?_
        refine g_fam rfl (by decide) hp1 ⟨hg2, hg3⟩ (Nat.le_of_ble_eq_true rfl) (sDo_up (d := 4) (by decide) (fam_p hk hp3 _ _ _ hp1 t1 (by rw [List.length_nil]; omega))) (fun r h3 hq => ?_)
        obtain ⟨rfl, e2, t2⟩ := hq
        refine g_ireturn (ty := .int) rfl rfl rfl ?_
        exact ⟨rfl, tE_tr e1 e2, t2⟩
    · skip
      refine go_jmp (pc1 := 59) (st1 := []) hF rfl ?_ ?_
      · show (if a.toInt < 0 ∨ 2 < a.toInt then _ else (match #[(28 : Int), 39, 50][(a.toInt - 0).toNat]? with
          | some off => (sTgt 20 off).map (fun t => (t, ([] : List Value)))
          | none => none)) = _
        rw [if_neg (by omega), show (a.toInt - 0).toNat = 1 by omega]; rfl
      · skip
        refine g_aload_n (i := 0) rfl rfl ?_
        refine g_getfield (v := .ref 2) rfl hf1 (by decide) f1 ?_
        refine g_iload_n (i := 1) rfl rfl ?_
        refine g_aaload rfl a31 (by decide) (i_in (by omega) (by omega)) ?_
        rw [fG]
        refine g_iload_n (i := 3) rfl rfl ?_
        refine g_fam rfl (by decide) hp1 ⟨hg2, hg3⟩ (Nat.le_of_ble_eq_true rfl) (sDo_up (d := 7) (by decide) (fam_w hk hp3 _ _ _ hp1 t1 (by rw [List.length_nil]; omega))) (fun r h3 hq => ?_)
        obtain ⟨rfl, e2, t2⟩ := hq
        refine g_ireturn (ty := .int) rfl rfl rfl ?_
        exact ⟨rfl, tE_tr e1 e2, t2⟩
    · skip
      refine go_jmp (pc1 := 70) (st1 := []) hF rfl ?_ ?_
      · show (if a.toInt < 0 ∨ 2 < a.toInt then _ else (match #[(28 : Int), 39, 50][(a.toInt - 0).toNat]? with
          | some off => (sTgt 20 off).map (fun t => (t, ([] : List Value)))
          | none => none)) = _
        rw [if_neg (by omega), show (a.toInt - 0).toNat = 2 by omega]; rfl
      · skip
        refine g_aload_n (i := 0) rfl rfl ?_
        refine g_getfield (v := .ref 2) rfl hf1 (by decide) f1 ?_
        refine g_iload_n (i := 1) rfl rfl ?_
        refine g_aaload rfl a31 (by decide) (i_in (by omega) (by omega)) ?_
        rw [fG]
        refine g_iload_n (i := 3) rfl rfl ?_
        refine g_fam rfl (by decide) hp1 ⟨hg2, hg3⟩ (Nat.le_of_ble_eq_true rfl) (sDo_up (d := 9) (by decide) (fam_h hk hp3 _ _ _ hp1 t1 (by rw [List.length_nil]; omega))) (fun r h3 hq => ?_)
        obtain ⟨rfl, e2, t2⟩ := hq
        refine g_ireturn (ty := .int) rfl rfl rfl ?_
        exact ⟨rfl, tE_tr e1 e2, t2⟩
theorem s_act12 {h : sHp} {l0 : List Int32} {hd co : Nat → Int32} {s a x y : Int32} {L : List Int32} (t : tR h l0) (a4 : h[67]? = some (.inl (0, 8, .inl hd))) (a7 : h[70]? = some (.inl (0, 8, .inl co))) (hx : (¬ (0 ≤ s.toInt ∧ s.toInt < 8) ∧ y = 0 ∧ L = []) ∨ ∃ S : Nat, s.toInt = S ∧ S < 8 ∧ ((¬ hd S = 2 ∧ y = 0 ∧ L = []) ∨ (hd S = 2 ∧ (a.toInt < 0 ∨ 2 < a.toInt) ∧ y = 0 ∧ L = []) ∨ (hd S = 2 ∧ ∃ k : Nat, k < 7 ∧ 0 ≤ (co S).toInt ∧ (co S).toInt / 1000 = k ∧ ((a.toInt = 0 ∧ y = pv k s (cD (co S) (Int8.ofInt 100).toInt32) x ∧ L = pL k) ∨ (a.toInt = 1 ∧ y = wv k s (cD (co S) (Int8.ofInt 100).toInt32) x ∧ L = wL k) ∨ (a.toInt = 2 ∧ y = hv k s (cD (co S) (Int8.ofInt 100).toInt32) x ∧ L = hL k))))) (hL : L.length ≤ 20) : sDo 10 252 [.ref 60, .int s, .int a, .int x] h (fun r h' => r = some (.int y) ∧ tG h h' ∧ tR h' L) := by
  obtain ⟨fs0, tr, hf0, f14, f17, f35, f36, h78, -⟩ := t
  have hln : 36 < fs0.length := (List.getElem?_eq_some_iff.mp f36).1
  have e0 : (0 : Int32).toInt = 0 := rfl
  have e2 : (Int32.ofInt 2).toInt = 2 := rfl
  have e1' : (Int32.ofInt 1).toInt = 1 := rfl
  refine sDo_of (d := 9) (nL := 4) (L := [some (.ref 60), some (.int s), some (.int a), some (.int x)]) rfl rfl ?_
  refine g_aload_n (i := 0) rfl rfl ?_
  refine g_iconst (n := 0) rfl ?_
  refine g_putfield (h1 := (h.set 60 (.inr (12, fs0.set 36 (.int (Int32.ofInt 0)))))) rfl hf0 (by decide) hln rfl rfl ?_
  have eG : tG h (h.set 60 (.inr (12, fs0.set 36 (.int (Int32.ofInt 0))))) := ⟨_, _, by rw [s_set_self h78]⟩
  have hf : (h.set 60 (.inr (12, fs0.set 36 (.int (Int32.ofInt 0)))))[60]? = some (.inr (12, fs0.set 36 (.int (Int32.ofInt 0)))) := s_set_eq hf0
  have g14 : (fs0.set 36 (.int (Int32.ofInt 0)))[14]? = some (.ref 67) := by rw [List.getElem?_set_ne (by decide)]; exact f14
  have t1 : tR (h.set 60 (.inr (12, fs0.set 36 (.int (Int32.ofInt 0))))) [] := ⟨_, tr, hf, g14, by rw [List.getElem?_set_ne (by decide)]; exact f17, by rw [List.getElem?_set_ne (by decide)]; exact f35, List.getElem?_set_self hln, by rw [s_set_ne (by decide)]; exact h78, fun i v hv => by cases hv⟩
  have b4 := (tG_at eG (p := 67) (by decide) (by decide)).trans a4
  have b7 := (tG_at eG (p := 70) (by decide) (by decide)).trans a7
  generalize (h.set 60 (.inr (12, fs0.set 36 (.int (Int32.ofInt 0))))) = h1 at eG hf t1 b4 b7
  generalize fs0.set 36 (.int (Int32.ofInt 0)) = fs at hf g14
  rcases hx with ⟨hs, rfl, rfl⟩ | ⟨S, hs, hS, hx⟩
  · skip
    refine g_aload_n (i := 0) rfl rfl ?_
    refine g_iload_n (i := 1) rfl rfl ?_
    refine g_virt1 (Qc := fun r h' => h' = h1 ∧ r = some (.int 0)) rfl (by decide) rfl hf rfl (Nat.le_of_ble_eq_true rfl) (s_sh12 (by rw [if_neg hs])) (fun r h9 hq9 => ?_)
    obtain ⟨rfl, rfl⟩ := hq9
    refine g_if_eq 32 rfl rfl (fun _ => ?_) (fun hc => absurd hc (by decide))
    refine g_iconst (n := 0) rfl ?_
    refine g_ireturn (ty := .int) rfl rfl rfl ?_
    exact ⟨rfl, eG, t1⟩
  · skip
    have sn : s.toNatClampNeg = S := i_nat hs
    refine g_aload_n (i := 0) rfl rfl ?_
    refine g_iload_n (i := 1) rfl rfl ?_
    refine g_virt1 (Qc := fun r h' => h' = h1 ∧ r = some (.int 1)) rfl (by decide) rfl hf rfl (Nat.le_of_ble_eq_true rfl) (s_sh12 (by rw [if_pos (by omega)])) (fun r h9 hq9 => ?_)
    obtain ⟨rfl, rfl⟩ := hq9
    refine g_if_eq 32 rfl rfl (fun hc => absurd hc (by decide)) (fun _ => ?_)
    refine g_aload_n (i := 0) rfl rfl ?_
    refine g_getfield (v := .ref 67) rfl hf (by decide) g14 ?_
    refine g_iload_n (i := 1) rfl rfl ?_
    refine g_ialv (n := 8) (f := hd) (v := hd S) rfl b4 (i_in (by omega) (by omega)) (congrArg hd sn) ?_
    refine g_iconst (n := 2) rfl ?_
    rcases hx with ⟨h2, rfl, rfl⟩ | ⟨h2, ha, rfl, rfl⟩ | ⟨h2, k, h7, c0, hk, hx⟩
    · skip
      refine g_icmp_ne 32 rfl rfl (fun _ => ?_) (fun hc => absurd hc (by exact h2))
      refine g_iconst (n := 0) rfl ?_
      refine g_ireturn (ty := .int) rfl rfl rfl ?_
      exact ⟨rfl, eG, t1⟩
    · skip
      refine g_icmp_ne 32 rfl rfl (fun hc => absurd hc (by exact fun z => z h2)) (fun _ => ?_)
      refine g_iload_n (i := 2) rfl rfl ?_
      refine g_if_lt 32 rfl rfl (fun c1 => ?_) (fun c1 => ?_)
      · skip
        refine g_iconst (n := 0) rfl ?_
        refine g_ireturn (ty := .int) rfl rfl rfl ?_
        exact ⟨rfl, eG, t1⟩
      · skip
        rw [i_lt, e0] at c1
        refine g_iload_n (i := 2) rfl rfl ?_
        refine g_iconst (n := 2) rfl ?_
        refine g_icmp_le 34 rfl rfl (fun hc => absurd hc (by rw [i_le, e2]; omega)) (fun _ => ?_)
        refine g_iconst (n := 0) rfl ?_
        refine g_ireturn (ty := .int) rfl rfl rfl ?_
        exact ⟨rfl, eG, t1⟩
    · skip
      refine g_icmp_ne 32 rfl rfl (fun hc => absurd hc (by exact fun z => z h2)) (fun _ => ?_)
      rcases hx with ⟨ha, rfl, rfl⟩ | ⟨ha, rfl, rfl⟩ | ⟨ha, rfl, rfl⟩
      · skip
        have hav : a = Int32.ofInt 0 := Int32.toInt_inj.mp (ha.trans rfl)
        refine g_iload_n (i := 2) rfl rfl ?_
        refine g_if_lt 32 rfl rfl (fun hc => absurd hc (by rw [i_lt, e0]; omega)) (fun _ => ?_)
        refine g_iload_n (i := 2) rfl rfl ?_
        refine g_iconst (n := 2) rfl ?_
        refine g_icmp_le 34 rfl rfl (fun _ => ?_) (fun hc => absurd hc (by rw [i_le, e2]; omega))
        refine g_iload_n (i := 2) rfl rfl ?_
        refine g_if_ne 47 rfl rfl (fun hc => absurd hc (by rw [hav]; decide)) (fun _ => ?_)
        refine g_aload_n (i := 0) rfl rfl ?_
        refine g_iload_n (i := 1) rfl rfl ?_
        refine g_iload_n (i := 3) rfl rfl ?_
        refine g_virt2 rfl (by decide) rfl hf rfl (Nat.le_of_ble_eq_true rfl) (sDo_up (d := 2) (by decide) (rf_p hs hS c0 h7 hk _ _ _ t1 b7 (by rw [List.length_nil]; omega))) (fun r h3 hq => ?_)
        obtain ⟨rfl, e2_, t2⟩ := hq
        refine g_goto 67 rfl rfl ?_
        refine g_ireturn (ty := .int) rfl rfl rfl ?_
        exact ⟨rfl, tG_tr eG e2_, t2⟩
      · skip
        have hav : a = Int32.ofInt 1 := Int32.toInt_inj.mp (ha.trans rfl)
        refine g_iload_n (i := 2) rfl rfl ?_
        refine g_if_lt 32 rfl rfl (fun hc => absurd hc (by rw [i_lt, e0]; omega)) (fun _ => ?_)
        refine g_iload_n (i := 2) rfl rfl ?_
        refine g_iconst (n := 2) rfl ?_
        refine g_icmp_le 34 rfl rfl (fun _ => ?_) (fun hc => absurd hc (by rw [i_le, e2]; omega))
        refine g_iload_n (i := 2) rfl rfl ?_
        refine g_if_ne 47 rfl rfl (fun _ => ?_) (fun hc => absurd hc (by rw [hav]; decide))
        refine g_iload_n (i := 2) rfl rfl ?_
        refine g_iconst (n := 1) rfl ?_
        refine g_icmp_ne 61 rfl rfl (fun hc => absurd hc (by rw [hav]; decide)) (fun _ => ?_)
        refine g_aload_n (i := 0) rfl rfl ?_
        refine g_iload_n (i := 1) rfl rfl ?_
        refine g_iload_n (i := 3) rfl rfl ?_
        refine g_virt2 rfl (by decide) rfl hf rfl (Nat.le_of_ble_eq_true rfl) (sDo_up (d := 3) (by decide) (rf_w hs hS c0 h7 hk _ _ _ t1 b7 (by rw [List.length_nil]; omega))) (fun r h3 hq => ?_)
        obtain ⟨rfl, e2_, t2⟩ := hq
        refine g_goto 67 rfl rfl ?_
        refine g_ireturn (ty := .int) rfl rfl rfl ?_
        exact ⟨rfl, tG_tr eG e2_, t2⟩
      · skip
        have hav : a = Int32.ofInt 2 := Int32.toInt_inj.mp (ha.trans rfl)
        refine g_iload_n (i := 2) rfl rfl ?_
        refine g_if_lt 32 rfl rfl (fun hc => absurd hc (by rw [i_lt, e0]; omega)) (fun _ => ?_)
        refine g_iload_n (i := 2) rfl rfl ?_
        refine g_iconst (n := 2) rfl ?_
        refine g_icmp_le 34 rfl rfl (fun _ => ?_) (fun hc => absurd hc (by rw [i_le, e2]; omega))
        refine g_iload_n (i := 2) rfl rfl ?_
        refine g_if_ne 47 rfl rfl (fun _ => ?_) (fun hc => absurd hc (by rw [hav]; decide))
        refine g_iload_n (i := 2) rfl rfl ?_
        refine g_iconst (n := 1) rfl ?_
        refine g_icmp_ne 61 rfl rfl (fun _ => ?_) (fun hc => absurd hc (by rw [hav]; decide))
        refine g_aload_n (i := 0) rfl rfl ?_
        refine g_iload_n (i := 1) rfl rfl ?_
        refine g_iload_n (i := 3) rfl rfl ?_
        refine g_virt2 rfl (by decide) rfl hf rfl (Nat.le_of_ble_eq_true rfl) (sDo_up (d := 4) (by decide) (rf_h hs hS c0 h7 hk _ _ _ t1 b7 (by rw [List.length_nil]; omega))) (fun r h3 hq => ?_)
        obtain ⟨rfl, e2_, t2⟩ := hq
        refine g_ireturn (ty := .int) rfl rfl rfl ?_
        exact ⟨rfl, tG_tr eG e2_, t2⟩
theorem s_trace11 {h : sHp} {fs : List Value} {l : List Int32} {i y : Int32} (hf : h[0]? = some (.inr (11, fs))) (f2 : fs[2]? = some (.ref 3)) (t : tC h l) (hl : l.length ≤ 20) (hx : (¬ (0 ≤ i.toInt ∧ i.toInt < l.length) ∧ y = -1) ∨ (0 ≤ i.toInt ∧ i.toInt < l.length ∧ l[i.toNatClampNeg]? = some y)) : sDo 10 153 [.ref 0, .int i] h (fun r h' => r = some (.int y) ∧ h' = h) := by
  obtain ⟨so, el, h3, h4, ht⟩ := t
  have en := ofN_toInt (n := l.length) (by omega)
  have e20 : (Int8.ofInt 20).toInt32.toInt = 20 := rfl
  refine sDo_of (d := 9) (nL := 2) (L := [some (.ref 0), some (.int i)]) rfl rfl ?_
  refine g_aload_n (i := 0) rfl rfl ?_
  refine g_getfield (v := .ref 3) rfl hf (by decide) f2 ?_
  refine g_iload_n (i := 1) rfl rfl ?_
  rcases hx with ⟨hi, rfl⟩ | ⟨i0, i1, hy⟩
  · skip
    refine g_virt1 (Qc := fun r h' => h' = h ∧ r = some (.int 0)) rfl (by decide) rfl h3 rfl (Nat.le_of_ble_eq_true rfl) (s_has7 h3 (by rw [en, if_neg hi])) (fun r h9 hq9 => ?_)
    obtain ⟨rfl, rfl⟩ := hq9
    refine g_if_eq 28 rfl rfl (fun _ => ?_) (fun hc => absurd hc (by decide))
    refine g_iconst (n := (-1)) rfl ?_
    refine g_ireturn (ty := .int) rfl rfl rfl ?_
    exact ⟨rfl, rfl⟩
  · skip
    refine g_virt1 (Qc := fun r h' => h' = h ∧ r = some (.int 1)) rfl (by decide) rfl h3 rfl (Nat.le_of_ble_eq_true rfl) (s_has7 h3 (by rw [en, if_pos ⟨i0, i1⟩])) (fun r h9 hq9 => ?_)
    obtain ⟨rfl, rfl⟩ := hq9
    refine g_if_eq 28 rfl rfl (fun hc => absurd hc (by decide)) (fun _ => ?_)
    refine g_iload_n (i := 1) rfl rfl ?_
    refine g_bipush (n := 20) rfl ?_
    refine g_icmp_ge 28 rfl rfl (fun hc => absurd hc (by rw [i_le, e20]; omega)) (fun _ => ?_)
    refine g_aload_n (i := 0) rfl rfl ?_
    refine g_getfield (v := .ref 3) rfl hf (by decide) f2 ?_
    refine g_iload_n (i := 1) rfl rfl ?_
    refine g_virt1 (Qc := fun r h' => h' = h9 ∧ r = some (.int y)) rfl (by decide) rfl h3 rfl (Nat.le_of_ble_eq_true rfl) (sDo_up (d := 2) (by decide) ?_) (fun r h8 hq9 => ?_)
    · skip
      refine sDo_of (d := 1) (nL := 2) (L := [some (.ref 3), some (.int i)]) rfl rfl ?_
      refine g_aload_n (i := 0) rfl rfl ?_
      refine g_iload_n (i := 1) rfl rfl ?_
      refine g_virt1 (Qc := fun r h' => h' = h9 ∧ r = some (.int 1)) rfl (by decide) rfl h3 rfl (Nat.le_of_ble_eq_true rfl) (s_has7 h3 (by rw [en, if_pos ⟨i0, i1⟩])) (fun r h8 hq9 => ?_)
      obtain ⟨rfl, rfl⟩ := hq9
      refine g_if_eq 18 rfl rfl (fun hc => absurd hc (by decide)) (fun _ => ?_)
      refine g_aload_n (i := 0) rfl rfl ?_
      refine g_getfield (v := .ref 4) rfl h3 (by decide) rfl ?_
      refine g_iload_n (i := 1) rfl rfl ?_
      refine g_laload (n := 100) (f := el) rfl h4 (i_in (by omega) (by omega)) ?_
      rw [ht _ _ hy]
      refine g_l2i rfl ?_
      rw [Int32.toInt32_toInt64]
      refine g_goto 19 rfl rfl ?_
      refine g_ireturn (ty := .int) rfl rfl rfl ?_
      exact ⟨rfl, rfl⟩
    · skip
      obtain ⟨rfl, rfl⟩ := hq9
      refine g_goto 29 rfl rfl ?_
      refine g_ireturn (ty := .int) rfl rfl rfl ?_
      exact ⟨rfl, rfl⟩
theorem s_trace12 {h : sHp} {l : List Int32} {i y : Int32} (t : tR h l) (hl : l.length ≤ 20) (hx : (¬ (0 ≤ i.toInt ∧ i.toInt < l.length) ∧ y = -1) ∨ (0 ≤ i.toInt ∧ i.toInt < l.length ∧ l[i.toNatClampNeg]? = some y)) : sDo 10 253 [.ref 60, .int i] h (fun r h' => r = some (.int y) ∧ h' = h) := by
  obtain ⟨fs, tr, hf, f14, f17, f35, f36, h78, ht⟩ := t
  have en := ofN_toInt (n := l.length) (by omega)
  have e20 : (Int8.ofInt 20).toInt32.toInt = 20 := rfl
  have e0 : (0 : Int32).toInt = 0 := rfl
  refine sDo_of (d := 9) (nL := 2) (L := [some (.ref 60), some (.int i)]) rfl rfl ?_
  rcases hx with ⟨hi, rfl⟩ | ⟨i0, i1, hy⟩
  · skip
    refine g_iload_n (i := 1) rfl rfl ?_
    refine g_if_lt 27 rfl rfl (fun c1 => ?_) (fun c1 => ?_)
    · skip
      refine g_iconst (n := (-1)) rfl ?_
      refine g_ireturn (ty := .int) rfl rfl rfl ?_
      exact ⟨rfl, rfl⟩
    · skip
      rw [i_lt, e0] at c1
      refine g_iload_n (i := 1) rfl rfl ?_
      refine g_bipush (n := 20) rfl ?_
      refine g_icmp_ge 27 rfl rfl (fun c2 => ?_) (fun c2 => ?_)
      · skip
        refine g_iconst (n := (-1)) rfl ?_
        refine g_ireturn (ty := .int) rfl rfl rfl ?_
        exact ⟨rfl, rfl⟩
      · skip
        refine g_iload_n (i := 1) rfl rfl ?_
        refine g_aload_n (i := 0) rfl rfl ?_
        refine g_getfield (v := .int (Int32.ofNat l.length)) rfl hf (by decide) f36 ?_
        refine g_icmp_ge 27 rfl rfl (fun _ => ?_) (fun hc => absurd hc (by rw [i_le, en]; omega))
        refine g_iconst (n := (-1)) rfl ?_
        refine g_ireturn (ty := .int) rfl rfl rfl ?_
        exact ⟨rfl, rfl⟩
  · skip
    refine g_iload_n (i := 1) rfl rfl ?_
    refine g_if_lt 27 rfl rfl (fun hc => absurd hc (by rw [i_lt, e0]; omega)) (fun _ => ?_)
    refine g_iload_n (i := 1) rfl rfl ?_
    refine g_bipush (n := 20) rfl ?_
    refine g_icmp_ge 27 rfl rfl (fun hc => absurd hc (by rw [i_le, e20]; omega)) (fun _ => ?_)
    refine g_iload_n (i := 1) rfl rfl ?_
    refine g_aload_n (i := 0) rfl rfl ?_
    refine g_getfield (v := .int (Int32.ofNat l.length)) rfl hf (by decide) f36 ?_
    refine g_icmp_ge 27 rfl rfl (fun hc => absurd hc (by rw [i_le, en]; omega)) (fun _ => ?_)
    refine g_aload_n (i := 0) rfl rfl ?_
    refine g_getfield (v := .ref 78) rfl hf (by decide) f35 ?_
    refine g_iload_n (i := 1) rfl rfl ?_
    refine g_ialv (n := 20) (f := tr) (v := y) rfl h78 (i_in (by omega) (by omega)) (ht _ _ hy) ?_
    refine g_goto 28 rfl rfl ?_
    refine g_ireturn (ty := .int) rfl rfl rfl ?_
    exact ⟨rfl, rfl⟩
def bTR (h : sHp) : Prop := ∃ l : List Int32, l.length ≤ 20 ∧ tC h l ∧ tR h l
def bTM : List Nat := [192, 193, 194, 256, 3854, 3857, 3875, 3876, 4992]
theorem bFr_fld {W g : Nat} {h h' : sHp} {p K ci : Nat} {fs : List Value} (a : bFr W g h h') (hc : h[p]? = some (.inr (ci, fs))) (hk : bKp p (.inr (ci, fs)) = K) : ∃ fs' : List Value, h'[p]? = some (.inr (ci, fs')) ∧ ∀ j, W.testBit (K * 64 + j) = false → fs'[j]? = fs[j]? := by
  obtain ⟨c', h1, h2⟩ := a.2.2 p _ hc
  rcases c' with ⟨t', n', d'⟩ | ⟨ci', fs'⟩
  · exact h2.elim
  · obtain ⟨rfl, e2, e3, -⟩ := h2
    rw [hk] at e3
    exact ⟨fs', h1, e3⟩
theorem bTR_fr {W gg : Nat} {h h' : sHp} (a : bFr W gg h h') (hW : ∀ b ∈ bTM, W.testBit b = false) (q : bTR h) : bTR h' := by
  obtain ⟨l, hl, ⟨so, el, h3, h4, ht⟩, fs, tr, hf, f14, f17, f35, f36, h78, ht2⟩ := q
  obtain ⟨fs', hf', he⟩ := bFr_fld (K := 60) a hf rfl
  refine ⟨l, hl, ⟨so, el, bFr_obj (K := 3) (n := 3) a h3 rfl rfl (fun j hj => hW _ ?_), bFr_arr (K := 4) a h4 (by decide) rfl (hW _ (by decide)), ht⟩, fs', tr, hf', (he 14 (hW _ (by decide))).trans f14, (he 17 (hW _ (by decide))).trans f17, (he 35 (hW _ (by decide))).trans f35, (he 36 (hW _ (by decide))).trans f36, bFr_arr (K := 78) a h78 (by decide) rfl (hW _ (by decide)), ht2⟩
  match j, hj with
  | 0, _ => decide
  | 1, _ => decide
  | 2, _ => decide
  | j + 3, hj => omega
def bR6 (h : sHp) : Prop := bR5 h ∧ bTR h
def bR6M : List Nat := bRM ++ bTM
theorem bR6_fr {W gg : Nat} {h h' : sHp} (a : bFr W gg h h') (hW : ∀ b ∈ bR6M, W.testBit b = false) (q : bR6 h) : bR6 h' := ⟨bR5_fr a (fun b hb => hW b (List.mem_append_left _ hb)) q.1, bTR_fr a (fun b hb => hW b (List.mem_append_right _ hb)) q.2⟩
def bPair6 (k1 k2 : Nat) (as : List Value) : Prop := ∀ h, bH h → bR6 h → sDo 10 k1 (.ref 0 :: as) h (fun r1 h1 => bH h1 ∧ h1.length ≤ h.length + 1 ∧ sDo 10 k2 (.ref 60 :: as) h1 (fun r2 h2 => bH h2 ∧ h2.length ≤ h1.length + 1 ∧ bR6 h2 ∧ ∃ x, r1 = some x ∧ r2 = some x))
theorem fr_use {c : bCn} {vs : List Value} (hc : bHolds c) (hd : Nat.ble c.2.1 10 = true) (ho : c.2.2.2.1 = []) {h : sHp} (hH : bH h) (ht : bTl h c.2.2.1 vs) : sDo 10 c.1 vs h (fun _ h' => bFr c.2.2.2.2.1 c.2.2.2.2.2.1 h h') :=
  sDo_up (Nat.le_of_ble_eq_true hd) (sDo_mono (hc h vs hH ht (by rw [ho]; exact fun e he => by cases he)) (fun r h' hen => hen.2.1))
theorem p6_of {c1 c2 : bCn} {as : List Value} (hp : bPair c1.1 c2.1 as) (h1 : bHolds c1) (h2 : bHolds c2) (d1 : Nat.ble c1.2.1 10 = true) (d2 : Nat.ble c2.2.1 10 = true) (o1 : c1.2.2.2.1 = []) (o2 : c2.2.2.2.1 = []) (w1 : ∀ b ∈ bTM, c1.2.2.2.2.1.testBit b = false) (w2 : ∀ b ∈ bTM, c2.2.2.2.2.1.testBit b = false) (t1 : ∀ h, bH h → bTl h c1.2.2.1 (.ref 0 :: as)) (t2 : ∀ h, bH h → bTl h c2.2.2.1 (.ref 60 :: as)) : bPair6 c1.1 c2.1 as := by
  intro h hH hR
  refine sDo_mono (sDo_and (hp h hH hR.1) (fr_use h1 d1 o1 hH (t1 h hH))) (fun r1 h1' q => ⟨q.1.1, q.1.2.1, ?_⟩)
  exact sDo_mono (sDo_and q.1.2.2 (fr_use h2 d2 o2 q.1.1 (t2 h1' q.1.1))) (fun r2 h2' z => ⟨z.1.1, z.1.2.1, ⟨z.1.2.2.1, bTR_fr z.2 w2 (bTR_fr q.2 w1 hR.2)⟩, z.1.2.2.2⟩)
theorem pr6_row (s : Int32) (a : Int32) (x : Int32) : bPair6 114 178 [.int s, .int a, .int x] := p6_of (c1 := cn_X11_row_0) (c2 := cn_X12_row_0) (pr_row s a x) ch_X11_row_0 ch_X12_row_0 (by decide +kernel) (by decide +kernel) rfl rfl (by decide +kernel) (by decide +kernel) (fun h hH => ⟨bt0 hH, vI0 s, vI0 a, vI0 x, trivial⟩) (fun h hH => ⟨bt60 hH, vI0 s, vI0 a, vI0 x, trivial⟩)
theorem pr6_set (s : Int32) (i : Int32) (v : Int64) : bPair6 115 179 [.int s, .int i, .long v] := p6_of (c1 := cn_X11_set_0) (c2 := cn_X12_set_0) (pr_set s i v) ch_X11_set_0 ch_X12_set_0 (by decide +kernel) (by decide +kernel) rfl rfl (by decide +kernel) (by decide +kernel) (fun h hH => ⟨bt0 hH, vI0 s, vI0 i, vL0 v, trivial⟩) (fun h hH => ⟨bt60 hH, vI0 s, vI0 i, vL0 v, trivial⟩)
theorem pr6_cut (s : Int32) (c : Int32) : bPair6 118 182 [.int s, .int c] := p6_of (c1 := cn_X11_cut_0) (c2 := cn_X12_cut_0) (pr_cut s c) ch_X11_cut_0 ch_X12_cut_0 (by decide +kernel) (by decide +kernel) rfl rfl (by decide +kernel) (by decide +kernel) (fun h hH => ⟨bt0 hH, vI0 s, vI0 c, trivial⟩) (fun h hH => ⟨bt60 hH, vI0 s, vI0 c, trivial⟩)
theorem pr6_copy (p : Int32) (q : Int32) (i : Int32) (j : Int32) (n : Int32) : bPair6 116 180 [.int p, .int q, .int i, .int j, .int n] := p6_of (c1 := cn_X11_copy_0) (c2 := cn_X12_copy_0) (pr_copy p q i j n) ch_X11_copy_0 ch_X12_copy_0 (by decide +kernel) (by decide +kernel) rfl rfl (by decide +kernel) (by decide +kernel) (fun h hH => ⟨bt0 hH, vI0 p, vI0 q, vI0 i, vI0 j, vI0 n, trivial⟩) (fun h hH => ⟨bt60 hH, vI0 p, vI0 q, vI0 i, vI0 j, vI0 n, trivial⟩)
theorem tE_R5 {h h' : sHp} (a : tE h h') (q : bR5 h) : bR5 h' := by
  obtain ⟨c3, c4, rfl⟩ := a
  exact bR5_set (bR5_set q (by decide) (by decide) (by decide) (by decide) (by decide)) (by decide) (by decide) (by decide) (by decide) (by decide)
theorem tG_R5 {h h' : sHp} (a : tG h h') (q : bR5 h) : bR5 h' := by
  obtain ⟨c3, c4, rfl⟩ := a
  exact bR5_set (bR5_set q (by decide) (by decide) (by decide) (by decide) (by decide)) (by decide) (by decide) (by decide) (by decide) (by decide)
theorem tE_tR {h h' : sHp} {l : List Int32} (a : tE h h') (t : tR h l) : tR h' l := by
  obtain ⟨fs, tr, hf, f14, f17, f35, f36, h78, ht⟩ := t
  exact ⟨fs, tr, (tE_at a (by decide) (by decide)).trans hf, f14, f17, f35, f36, (tE_at a (by decide) (by decide)).trans h78, ht⟩
theorem tG_tC {h h' : sHp} {l : List Int32} (a : tG h h') (t : tC h l) : tC h' l := by
  obtain ⟨so, el, h3, h4, ht⟩ := t
  exact ⟨so, el, (tG_at a (by decide) (by decide)).trans h3, (tG_at a (by decide) (by decide)).trans h4, ht⟩
theorem pr6_act (s a x : Int32) : bPair6 152 252 [.int s, .int a, .int x] := by
  have c1 : ∀ h, bH h → sDo 10 152 (.ref 0 :: [.int s, .int a, .int x]) h (fun _ h' => bH h' ∧ h'.length ≤ h.length + 1) := fun h hH => pr_use ch_X11_act_0 (by decide +kernel) (by decide +kernel) rfl hH ⟨bt0 hH, vI0 s, vI0 a, vI0 x, trivial⟩
  have c2 : ∀ h, bH h → sDo 10 252 (.ref 60 :: [.int s, .int a, .int x]) h (fun _ h' => bH h' ∧ h'.length ≤ h.length + 1) := fun h hH => pr_use ch_X12_act_0 (by decide +kernel) (by decide +kernel) rfl hH ⟨bt60 hH, vI0 s, vI0 a, vI0 x, trivial⟩
  intro h hH hR
  obtain ⟨hR5, l0, hl0, tc, tr⟩ := hR
  obtain ⟨fs, hf, -, hfs⟩ := bFldK hH (p := 0) (by decide) rfl
  obtain ⟨v0, f0, r0⟩ := hfs 0 _ rfl
  cases bT_one (by decide) (by decide +kernel) r0
  obtain ⟨v1, f1, r1⟩ := hfs 1 _ rfl
  cases bT_one (by decide) (by decide +kernel) r1
  obtain ⟨v2, f2, r2⟩ := hfs 2 _ rfl
  cases bT_one (by decide) (by decide +kernel) r2
  have fin : ∀ (y : Int32) (L : List Int32), L.length ≤ 20 → sDo 10 152 (.ref 0 :: [.int s, .int a, .int x]) h (fun r h' => r = some (.int y) ∧ tE h h' ∧ tC h' L) → (∀ h1, tE h h1 → sDo 10 252 (.ref 60 :: [.int s, .int a, .int x]) h1 (fun r h' => r = some (.int y) ∧ tG h1 h' ∧ tR h' L)) → sDo 10 152 (.ref 0 :: [.int s, .int a, .int x]) h (fun r1 h1 => bH h1 ∧ h1.length ≤ h.length + 1 ∧ sDo 10 252 (.ref 60 :: [.int s, .int a, .int x]) h1 (fun r2 h2 => bH h2 ∧ h2.length ≤ h1.length + 1 ∧ bR6 h2 ∧ ∃ x, r1 = some x ∧ r2 = some x)) := by
    intro y L hL s1 s2
    refine sDo_mono (sDo_and (c1 h hH) s1) (fun r1 h1 q => ?_)
    obtain ⟨⟨q1, q2⟩, rfl, q3, q4⟩ := q
    refine ⟨q1, q2, sDo_mono (sDo_and (c2 h1 q1) (s2 h1 q3)) (fun r2 h2 z => ?_)⟩
    obtain ⟨⟨z1, z2⟩, rfl, z3, z4⟩ := z
    exact ⟨z1, z2, ⟨tG_R5 z3 (tE_R5 q3 hR5), L, hL, tG_tC z3 q4, z4⟩, _, rfl, rfl⟩
  have hR5c := hR5
  obtain ⟨hd, so, sz, co, cl, f, g, ⟨a1, a2, a3, a4, a5, a6, a7, a8⟩, q5⟩ := hR5c
  by_cases hs : 0 ≤ s.toInt ∧ s.toInt < 8
  · obtain ⟨S, hSe⟩ : ∃ S : Nat, s.toInt = S := ⟨s.toInt.toNat, by omega⟩
    have hS8 : S < 8 := by omega
    obtain ⟨ot, z, el, b1, b2, b3⟩ := q5 S hS8
    have nc : ∀ n : Int32, ((¬ ot = -1 ∧ n = -2) ∨ (g S = none ∧ ot = -1 ∧ n = -3) ∨ (∃ p, g S = some p ∧ ot = -1 ∧ n = 0)) → ∀ h1, tE h h1 → sDo 2 162 [.ref 0, .int s] h1 (fun r h' => h' = h1 ∧ r = some (.int n)) := fun n hn h1 e => s_noCut (d := 0) ((tE_at e (by decide) (by decide)).trans hf) f0 f1 ((tE_at e (by decide) (by decide)).trans a1) a2 ((tE_at e (by decide) (by decide)).trans a3) hSe hS8 ((tE_at e (by omega) (by omega)).trans b1) hn
    have no : ∀ n : Int32, ¬ n = 0 → ¬ hd S = 2 → (∀ h1, tE h h1 → sDo 2 162 [.ref 0, .int s] h1 (fun r h' => h' = h1 ∧ r = some (.int n))) → _ := fun n hn0 hh hn => fin 0 [] (by decide) (s_act11 hf f1 f2 tc hn (Or.inl ⟨hn0, rfl, rfl⟩) (by decide)) (fun h1 e => s_act12 (tE_tR e tr) ((tE_at e (by decide) (by decide)).trans a4) ((tE_at e (by decide) (by decide)).trans a7) (Or.inr ⟨S, hSe, hS8, Or.inl ⟨hh, rfl, rfl⟩⟩) (by decide))
    rcases b3 with ⟨x1, x2, x3⟩ | ⟨x1, x2, x3, x4, -⟩ | ⟨x1, x2, p, x3, x4, x5, x6, x7⟩
    · exact no (-3) (by decide) (by rw [x1]; decide) (nc (-3) (Or.inr (Or.inl ⟨x2, x3, rfl⟩)))
    · refine no (-2) (by decide) (by rw [x1]; decide) (nc (-2) (Or.inl ⟨fun z => ?_, rfl⟩))
      rw [z] at x4
      exact absurd x4 (by decide)
    · have n0 := nc 0 (Or.inr (Or.inr ⟨p, x4, x2, rfl⟩))
      have hsS : Int32.ofNat S = s := by
        apply Int32.toInt_inj.mp
        rw [Int32.toInt_ofNat_of_lt (by omega), hSe]
      rw [hsS] at x5
      have hk7 : ((co S).toInt / 1000).toNat < 7 := by omega
      have hke : (co S).toInt / 1000 = (((co S).toInt / 1000).toNat : Int) := by omega
      have yes : ∀ (y : Int32) (L : List Int32), L.length ≤ 20 → ((a.toInt = 0 ∧ y = pv ((co S).toInt / 1000).toNat s (cD (co S) (Int8.ofInt 100).toInt32) x ∧ L = pL ((co S).toInt / 1000).toNat) ∨ (a.toInt = 1 ∧ y = wv ((co S).toInt / 1000).toNat s (cD (co S) (Int8.ofInt 100).toInt32) x ∧ L = wL ((co S).toInt / 1000).toNat) ∨ (a.toInt = 2 ∧ y = hv ((co S).toInt / 1000).toNat s (cD (co S) (Int8.ofInt 100).toInt32) x ∧ L = hL ((co S).toInt / 1000).toNat)) → _ := fun y L hL hy => fin y L hL (s_act11 hf f1 f2 tc n0 (Or.inr (Or.inr ⟨rfl, g, S, p, _, co S, a3, hSe, hS8, x4, x3, hk7, x5, bKi_in (co S), hy⟩)) hL) (fun h1 e => s_act12 (tE_tR e tr) ((tE_at e (by decide) (by decide)).trans a4) ((tE_at e (by decide) (by decide)).trans a7) (Or.inr ⟨S, hSe, hS8, Or.inr (Or.inr ⟨x1, _, hk7, x6, hke, hy⟩)⟩) hL)
      have hlen := fun a => aLs_len (a := a) hk7
      by_cases ha0 : a.toInt = 0
      · exact yes _ _ (hlen 0) (Or.inl ⟨ha0, rfl, rfl⟩)
      · by_cases ha1 : a.toInt = 1
        · exact yes _ _ (hlen 1) (Or.inr (Or.inl ⟨ha1, rfl, rfl⟩))
        · by_cases ha2 : a.toInt = 2
          · exact yes _ _ (hlen 2) (Or.inr (Or.inr ⟨ha2, rfl, rfl⟩))
          · exact fin 0 [] (by decide) (s_act11 hf f1 f2 tc n0 (Or.inr (Or.inl ⟨rfl, by omega, rfl, rfl⟩)) (by decide)) (fun h1 e => s_act12 (tE_tR e tr) ((tE_at e (by decide) (by decide)).trans a4) ((tE_at e (by decide) (by decide)).trans a7) (Or.inr ⟨S, hSe, hS8, Or.inr (Or.inl ⟨x1, by omega, rfl, rfl⟩)⟩) (by decide))
  · exact fin 0 [] (by decide) (s_act11 (nc := -1) hf f1 f2 tc (fun h1 e => s_noCutO (d := 0) hs) (Or.inl ⟨by decide, rfl, rfl⟩) (by decide)) (fun h1 e => s_act12 (tE_tR e tr) ((tE_at e (by decide) (by decide)).trans a4) ((tE_at e (by decide) (by decide)).trans a7) (Or.inl ⟨hs, rfl, rfl⟩) (by decide))
theorem pr6_trace (i : Int32) : bPair6 153 253 [.int i] := by
  intro h hH hR
  have hRc := hR
  obtain ⟨hR5, l, hl, tc, tr⟩ := hRc
  obtain ⟨fs, hf, -, hfs⟩ := bFldK hH (p := 0) (by decide) rfl
  obtain ⟨v2, f2, r2⟩ := hfs 2 _ rfl
  cases bT_one (by decide) (by decide +kernel) r2
  have fin : ∀ y : Int32, ((¬ (0 ≤ i.toInt ∧ i.toInt < l.length) ∧ y = -1) ∨ (0 ≤ i.toInt ∧ i.toInt < l.length ∧ l[i.toNatClampNeg]? = some y)) → sDo 10 153 (.ref 0 :: [.int i]) h (fun r1 h1 => bH h1 ∧ h1.length ≤ h.length + 1 ∧ sDo 10 253 (.ref 60 :: [.int i]) h1 (fun r2 h2 => bH h2 ∧ h2.length ≤ h1.length + 1 ∧ bR6 h2 ∧ ∃ x, r1 = some x ∧ r2 = some x)) := fun y hy => sDo_mono (s_trace11 hf f2 tc hl hy) (fun r1 h1 q => by
    obtain ⟨rfl, rfl⟩ := q
    exact ⟨hH, Nat.le_succ _, sDo_mono (s_trace12 tr hl hy) (fun r2 h2 z => by
      obtain ⟨rfl, rfl⟩ := z
      exact ⟨hH, Nat.le_succ _, hR, _, rfl, rfl⟩)⟩)
  by_cases hi : 0 ≤ i.toInt ∧ i.toInt < l.length
  · have in_ : (i.toNatClampNeg : Int) = i.toInt := by
      show ((i.toInt.toNat : Nat) : Int) = i.toInt
      omega
    exact fin _ (Or.inr ⟨hi.1, hi.2, List.getElem?_eq_getElem (show i.toNatClampNeg < l.length by omega)⟩)
  · exact fin (-1) (Or.inl ⟨hi, rfl⟩)
end
section
/-! ===== texts: the class's reader ===== -/
def tx (el : Nat → Int64) (n : Nat) : Nat → Int32 := fun i => if i < n then (el i).toInt32 else 0
def dgS (x : Int32) : Option Nat := if 48 ≤ x.toInt ∧ x.toInt ≤ 57 then some (x.toInt - 48).toNat else none
theorem dgS_lt {x : Int32} {v : Nat} (h : dgS x = some v) : v ≤ 9 ∧ 48 ≤ x.toInt ∧ x.toInt ≤ 57 ∧ x.toInt = v + 48 := by
  unfold dgS at h
  by_cases c : 48 ≤ x.toInt ∧ x.toInt ≤ 57
  · rw [if_pos c] at h
    cases h
    omega
  · rw [if_neg c] at h
    cases h
/-- digits from a place on: the number and the place behind it -/
def numS (T : Nat → Int32) (p : Nat) (lo hi : Int) : Option (Nat × Nat) := match dgS (T p) with
  | none => none
  | some d => match dgS (T (p + 1)) with
    | none => if lo ≤ d ∧ (d : Int) ≤ hi then some (d, p + 1) else none
    | some e => if lo ≤ (10 * d + e : Nat) ∧ ((10 * d + e : Nat) : Int) ≤ hi then some (10 * d + e, p + 2) else none
/-- a blank and a number -/
def nxtS (T : Nat → Int32) (p : Nat) (lo hi : Int) : Option (Nat × Nat) := if T p = 32 then numS T (p + 1) lo hi else none
def rd (tp : Nat) (flt : Int32) (A : Nat) : va_E := .inr (6, [.int flt, .ref tp, .ref 27, .int (Int32.ofNat A)])
theorem s_intR {d : Nat} {h : sHp} {tp ep n I : Nat} {ot i : Int32} {el : Nat → Int64} (ht : h[tp]? = some (.inr (7, [.int ot, .int (Int32.ofNat n), .ref ep]))) (he : h[ep]? = some (.inl (1, 100, .inr (.inl el)))) (hn : n ≤ 100) (hi : i.toInt = I) : sDo (d + 2) 85 [.ref tp, .int i] h (fun r h' => h' = h ∧ r = some (.int (tx el n I))) := by
  have en := ofN_toInt (n := n) (by omega)
  refine sDo_of (d := d + 1) (nL := 2) (L := [some (.ref tp), some (.int i)]) rfl rfl ?_
  refine g_aload_n (i := 0) rfl rfl ?_
  refine g_iload_n (i := 1) rfl rfl ?_
  by_cases hin : I < n
  · skip
    refine g_virt1 (Qc := fun r h' => h' = h ∧ r = some (.int 1)) rfl (by decide) rfl ht rfl (Nat.le_of_ble_eq_true rfl) (s_has7 ht (by rw [en, if_pos (by omega)])) (fun r h9 hq9 => ?_)
    obtain ⟨rfl, rfl⟩ := hq9
    refine g_if_eq 18 rfl rfl (fun hc => absurd hc (by decide)) (fun _ => ?_)
    refine g_aload_n (i := 0) rfl rfl ?_
    refine g_getfield (v := .ref ep) rfl ht (by decide) rfl ?_
    refine g_iload_n (i := 1) rfl rfl ?_
    refine g_laload (n := 100) (f := el) rfl he (i_in (by omega) (by omega)) ?_
    rw [i_nat hi]
    refine g_l2i rfl ?_
    refine g_goto 19 rfl rfl ?_
    refine g_ireturn (ty := .int) rfl rfl rfl ?_
    exact ⟨rfl, by unfold tx; rw [if_pos hin]⟩
  · skip
    refine g_virt1 (Qc := fun r h' => h' = h ∧ r = some (.int 0)) rfl (by decide) rfl ht rfl (Nat.le_of_ble_eq_true rfl) (s_has7 ht (by rw [en, if_neg (by omega)])) (fun r h9 hq9 => ?_)
    obtain ⟨rfl, rfl⟩ := hq9
    refine g_if_eq 18 rfl rfl (fun _ => ?_) (fun hc => absurd hc (by decide))
    refine g_iconst (n := 0) rfl ?_
    refine g_ireturn (ty := .int) rfl rfl rfl ?_
    exact ⟨rfl, by unfold tx; rw [if_neg hin]; rfl⟩
theorem s_fails {d : Nat} {h : sHp} {rp tp A : Nat} {flt pl : Int32} (hr : h[rp]? = some (rd tp flt A)) : sDo (d + 1) 66 [.ref rp, .int pl] h (fun r h' => r = some (.int 0) ∧ h' = h.set rp (rd tp pl A)) := by
  refine sDo_of (d := d) (nL := 2) (L := [some (.ref rp), some (.int pl)]) rfl rfl ?_
  refine g_aload_n (i := 0) rfl rfl ?_
  refine g_iload_n (i := 1) rfl rfl ?_
  refine g_putfield (h1 := h.set rp (rd tp pl A)) rfl hr (by decide) (Nat.le_of_ble_eq_true rfl) rfl rfl ?_
  refine g_iconst (n := 0) rfl ?_
  refine g_ireturn (ty := .boolean) rfl rfl (by decide) ?_
  exact ⟨rfl, rfl⟩
theorem s_passesY {d : Nat} {h : sHp} {rp tp ep n A : Nat} {ot flt : Int32} {el : Nat → Int64} {c : Int32} (hr : h[rp]? = some (rd tp flt A)) (ht : h[tp]? = some (.inr (7, [.int ot, .int (Int32.ofNat n), .ref ep]))) (he : h[ep]? = some (.inl (1, 100, .inr (.inl el)))) (hn : n ≤ 100) (hA : A < 990) (hcc : tx el n A = c) : sDo (d + 3) 67 [.ref rp, .int c] h (fun r h' => r = some (.int 1) ∧ h' = h.set rp (rd tp flt (A + 1))) := by
  have eA := ofN_toInt (n := A) (by omega)
  refine sDo_of (d := d + 2) (nL := 2) (L := [some (.ref rp), some (.int c)]) rfl rfl ?_
  refine g_aload_n (i := 0) rfl rfl ?_
  refine g_getfield (v := .ref tp) rfl hr (by decide) rfl ?_
  refine g_aload_n (i := 0) rfl rfl ?_
  refine g_getfield (v := .int (Int32.ofNat A)) rfl hr (by decide) rfl ?_
  refine g_virt1 (Qc := fun r h' => h' = h ∧ r = some (.int (tx el n A))) rfl (by decide) rfl ht rfl (Nat.le_of_ble_eq_true rfl) (s_intR ht he hn eA) (fun r h9 hq9 => ?_)
  obtain ⟨rfl, rfl⟩ := hq9
  refine g_iload_n (i := 1) rfl rfl ?_
  refine g_icmp_eq 24 rfl rfl (fun _ => ?_) (fun hc => absurd hc (by exact fun z => z hcc))
  refine g_aload_n (i := 0) rfl rfl ?_
  refine g_dup rfl rfl ?_
  refine g_getfield (v := .int (Int32.ofNat A)) rfl hr (by decide) rfl ?_
  refine g_iconst (n := 1) rfl ?_
  refine g_iadd rfl ?_
  rw [ofN_add (by omega)]
  refine g_putfield (h1 := h9.set rp (rd tp flt (A + 1))) rfl hr (by decide) (Nat.le_of_ble_eq_true rfl) rfl rfl ?_
  refine g_iconst (n := 1) rfl ?_
  refine g_ireturn (ty := .boolean) rfl rfl (by decide) ?_
  exact ⟨rfl, rfl⟩
theorem s_passesN {d : Nat} {h : sHp} {rp tp ep n A : Nat} {ot flt : Int32} {el : Nat → Int64} {c : Int32} (hr : h[rp]? = some (rd tp flt A)) (ht : h[tp]? = some (.inr (7, [.int ot, .int (Int32.ofNat n), .ref ep]))) (he : h[ep]? = some (.inl (1, 100, .inr (.inl el)))) (hn : n ≤ 100) (hA : A < 990) (hcc : ¬ tx el n A = c) : sDo (d + 3) 67 [.ref rp, .int c] h (fun r h' => r = some (.int 0) ∧ h' = h.set rp (rd tp (Int32.ofNat A) A)) := by
  have eA := ofN_toInt (n := A) (by omega)
  refine sDo_of (d := d + 2) (nL := 2) (L := [some (.ref rp), some (.int c)]) rfl rfl ?_
  refine g_aload_n (i := 0) rfl rfl ?_
  refine g_getfield (v := .ref tp) rfl hr (by decide) rfl ?_
  refine g_aload_n (i := 0) rfl rfl ?_
  refine g_getfield (v := .int (Int32.ofNat A)) rfl hr (by decide) rfl ?_
  refine g_virt1 (Qc := fun r h' => h' = h ∧ r = some (.int (tx el n A))) rfl (by decide) rfl ht rfl (Nat.le_of_ble_eq_true rfl) (s_intR ht he hn eA) (fun r h9 hq9 => ?_)
  obtain ⟨rfl, rfl⟩ := hq9
  refine g_iload_n (i := 1) rfl rfl ?_
  refine g_icmp_eq 24 rfl rfl (fun hc => absurd hc (by exact hcc)) (fun _ => ?_)
  refine g_aload_n (i := 0) rfl rfl ?_
  refine g_aload_n (i := 0) rfl rfl ?_
  refine g_getfield (v := .int (Int32.ofNat A)) rfl hr (by decide) rfl ?_
  refine g_virt1 (Qc := fun r h' => r = some (.int 0) ∧ h' = List.set h9 rp (rd tp (Int32.ofNat A) A)) rfl (by decide) rfl hr rfl (Nat.le_of_ble_eq_true rfl) (sDo_up (d := 1) (by omega) (s_fails (d := 0) hr)) (fun r h8 hq9 => ?_)
  obtain ⟨rfl, rfl⟩ := hq9
  refine g_ireturn (ty := .boolean) rfl rfl (by decide) ?_
  exact ⟨rfl, rfl⟩
def dgI (x : Int32) : Int32 := match dgS x with
  | some v => Int32.ofNat v
  | none => Int32.ofInt (-1)
theorem s_digitAt {d : Nat} {h : sHp} {rp tp ep n A : Nat} {ot flt : Int32} {el : Nat → Int64} {i : Int32} {I : Nat} (hr : h[rp]? = some (rd tp flt A)) (ht : h[tp]? = some (.inr (7, [.int ot, .int (Int32.ofNat n), .ref ep]))) (he : h[ep]? = some (.inl (1, 100, .inr (.inl el)))) (hn : n ≤ 100) (hA : A < 990) (hi : i.toInt = I) : sDo (d + 3) 73 [.ref rp, .int i] h (fun r h' => h' = h ∧ r = some (.int (dgI (tx el n I)))) := by
  have e48 : (Int8.ofInt 48).toInt32.toInt = 48 := rfl
  have e57 : (Int8.ofInt 57).toInt32.toInt = 57 := rfl
  refine sDo_of (d := d + 2) (nL := 3) (L := [some (.ref rp), some (.int i), none]) rfl rfl ?_
  refine g_aload_n (i := 0) rfl rfl ?_
  refine g_getfield (v := .ref tp) rfl hr (by decide) rfl ?_
  refine g_iload_n (i := 1) rfl rfl ?_
  refine g_virt1 (Qc := fun r h' => h' = h ∧ r = some (.int (tx el n I))) rfl (by decide) rfl ht rfl (Nat.le_of_ble_eq_true rfl) (s_intR ht he hn hi) (fun r h9 hq9 => ?_)
  obtain ⟨rfl, rfl⟩ := hq9
  generalize tx el n I = x
  unfold dgI dgS
  refine g_istore_n (i := 2) (L1 := [some (.ref rp), some (.int i), some (.int x)]) rfl (Nat.le_of_ble_eq_true rfl) rfl ?_
  refine g_iload_n (i := 2) rfl rfl ?_
  refine g_bipush (n := 48) rfl ?_
  refine g_icmp_lt 28 rfl rfl (fun c1 => ?_) (fun c1 => ?_)
  · skip
    rw [i_lt, e48] at c1
    refine g_iconst (n := (-1)) rfl ?_
    refine g_ireturn (ty := .int) rfl rfl rfl ?_
    exact ⟨rfl, by rw [if_neg (by omega)]⟩
  · skip
    rw [i_lt, e48] at c1
    refine g_iload_n (i := 2) rfl rfl ?_
    refine g_bipush (n := 57) rfl ?_
    refine g_icmp_gt 28 rfl rfl (fun c2 => ?_) (fun c2 => ?_)
    · skip
      rw [i_lt, e57] at c2
      refine g_iconst (n := (-1)) rfl ?_
      refine g_ireturn (ty := .int) rfl rfl rfl ?_
      exact ⟨rfl, by rw [if_neg (by omega)]⟩
    · skip
      rw [i_lt, e57] at c2
      refine g_iload_n (i := 2) rfl rfl ?_
      refine g_bipush (n := 48) rfl ?_
      refine g_isub rfl ?_
      refine g_goto 29 rfl rfl ?_
      refine g_ireturn (ty := .int) rfl rfl rfl ?_
      refine ⟨rfl, ?_⟩
      rw [if_pos (by omega)]
      refine congrArg (fun v => some (Value.int v)) (Int32.toInt_inj.mp ?_)
      rw [i_sub (by rw [e48]; omega) (by rw [e48]; omega), e48, ofN_toInt (by omega)]
      omega
def qNum (rp tp : Nat) (flt : Int32) (h : sHp) (q : Option (Nat × Nat)) (r : Option Value) (h' : sHp) : Prop := match q with
  | some (v, A') => r = some (.int (Int32.ofNat v)) ∧ h' = h.set rp (rd tp flt A')
  | none => r = some (.int (Int32.ofInt (-1))) ∧ ∃ F A' : Nat, F < 999 ∧ h' = h.set rp (rd tp (Int32.ofNat F) A')
theorem s_rnTail {d : Nat} {h h0 : sHp} {rp tp A F v : Nat} {flt lo hi x5 : Int32} {q : Option (Nat × Nat)} (hr : h[rp]? = some (rd tp flt A)) (h0e : ∀ c, h.set rp c = h0.set rp c) (hh : h = h0.set rp (rd tp flt A)) (hv : v < 900) (hF : F < 999) (hq : q = if lo.toInt ≤ v ∧ (v : Int) ≤ hi.toInt then some (v, A) else none) : sGo none 72 (d + 1) 89 [some (.ref rp), some (.int lo), some (.int hi), some (.int (Int32.ofNat F)), some (.int (Int32.ofNat v)), some (.int x5)] [] h (qNum rp tp flt h0 q) := by
  have ev := ofN_toInt (n := v) (by omega)
  refine g_iload (i := 4) rfl rfl ?_
  refine g_iload_n (i := 1) rfl rfl ?_
  refine g_icmp_lt 101 rfl rfl (fun c1 => ?_) (fun c1 => ?_)
  · skip
    rw [i_lt, ev] at c1
    refine g_aload_n (i := 0) rfl rfl ?_
    refine g_iload_n (i := 3) rfl rfl ?_
    refine g_virt1 (Qc := fun r h' => r = some (.int 0) ∧ h' = List.set h rp (rd tp (Int32.ofNat F) A)) rfl (by decide) rfl hr rfl (Nat.le_of_ble_eq_true rfl) (sDo_up (d := 1) (by omega) (s_fails (d := 0) hr)) (fun r h8 hq9 => ?_)
    obtain ⟨rfl, rfl⟩ := hq9
    refine g_pop rfl rfl ?_
    refine g_iconst (n := (-1)) rfl ?_
    refine g_ireturn (ty := .int) rfl rfl rfl ?_
    rw [hq, if_neg (by omega)]
    exact ⟨rfl, F, A, hF, h0e _⟩
  · skip
    rw [i_lt, ev] at c1
    refine g_iload (i := 4) rfl rfl ?_
    refine g_iload_n (i := 2) rfl rfl ?_
    refine g_icmp_le 109 rfl rfl (fun c2 => ?_) (fun c2 => ?_)
    · skip
      rw [i_le, ev] at c2
      refine g_iload (i := 4) rfl rfl ?_
      refine g_ireturn (ty := .int) rfl rfl rfl ?_
      rw [hq, if_pos (by omega)]
      exact ⟨rfl, hh⟩
    · skip
      rw [i_le, ev] at c2
      refine g_aload_n (i := 0) rfl rfl ?_
      refine g_iload_n (i := 3) rfl rfl ?_
      refine g_virt1 (Qc := fun r h' => r = some (.int 0) ∧ h' = List.set h rp (rd tp (Int32.ofNat F) A)) rfl (by decide) rfl hr rfl (Nat.le_of_ble_eq_true rfl) (sDo_up (d := 1) (by omega) (s_fails (d := 0) hr)) (fun r h8 hq9 => ?_)
      obtain ⟨rfl, rfl⟩ := hq9
      refine g_pop rfl rfl ?_
      refine g_iconst (n := (-1)) rfl ?_
      refine g_ireturn (ty := .int) rfl rfl rfl ?_
      rw [hq, if_neg (by omega)]
      exact ⟨rfl, F, A, hF, h0e _⟩
theorem s_readNumber {d : Nat} {h : sHp} {rp tp ep n A : Nat} {ot flt : Int32} {el : Nat → Int64} {lo hi : Int32} (hr : h[rp]? = some (rd tp flt A)) (ht : h[tp]? = some (.inr (7, [.int ot, .int (Int32.ofNat n), .ref ep]))) (he : h[ep]? = some (.inl (1, 100, .inr (.inl el)))) (hn : n ≤ 100) (hA : A < 990) (hA2 : A < 900) (h1 : rp ≠ tp) (h2 : rp ≠ ep) : sDo (d + 4) 72 [.ref rp, .int lo, .int hi] h (qNum rp tp flt h (nxtS (tx el n) A lo.toInt hi.toInt)) := by
  have eA1 := ofN_toInt (n := A + 1) (by omega)
  have eA2 := ofN_toInt (n := A + 2) (by omega)
  have setr : ∀ (c c' : va_E), (h.set rp c).set rp c' = h.set rp c' := fun c c' => List.set_set ..
  have htS : ∀ c, (h.set rp c)[tp]? = some (.inr (7, [.int ot, .int (Int32.ofNat n), .ref ep])) := fun c => by rw [s_set_ne h1]; exact ht
  have heS : ∀ c, (h.set rp c)[ep]? = some (.inl (1, 100, .inr (.inl el))) := fun c => by rw [s_set_ne h2]; exact he
  have hrS : ∀ c, (h.set rp c)[rp]? = some c := fun c => s_set_eq hr
  unfold nxtS
  refine sDo_of (d := d + 3) (nL := 6) (L := [some (.ref rp), some (.int lo), some (.int hi), none, none, none]) rfl rfl ?_
  by_cases hb : tx el n A = 32
  · skip
    refine g_aload_n (i := 0) rfl rfl ?_
    refine g_bipush (n := 32) rfl ?_
    refine g_virt1 (Qc := fun r h' => r = some (.int 1) ∧ h' = h.set rp (rd tp flt (A + 1))) rfl (by decide) rfl hr rfl (Nat.le_of_ble_eq_true rfl) (sDo_up (d := 3) (by omega) (s_passesY (d := 0) hr ht he hn hA hb)) (fun r h9 hq9 => ?_)
    obtain ⟨rfl, rfl⟩ := hq9
    refine g_if_ne 11 rfl rfl (fun _ => ?_) (fun hc => absurd hc (by decide))
    have r1 := hrS (rd tp flt (A + 1))
    rw [if_pos hb]
    refine g_aload_n (i := 0) rfl rfl ?_
    refine g_getfield (v := .int (Int32.ofNat (A + 1))) rfl r1 (by decide) rfl ?_
    refine g_istore_n (i := 3) (L1 := [some (.ref rp), some (.int lo), some (.int hi), some (.int (Int32.ofNat (A + 1))), none, none]) rfl (Nat.le_of_ble_eq_true rfl) rfl ?_
    refine g_aload_n (i := 0) rfl rfl ?_
    refine g_aload_n (i := 0) rfl rfl ?_
    refine g_getfield (v := .int (Int32.ofNat (A + 1))) rfl r1 (by decide) rfl ?_
    refine g_virt1 (Qc := fun r h' => h' = h.set rp (rd tp flt (A + 1)) ∧ r = some (.int (dgI (tx el n (A + 1))))) rfl (by decide) rfl r1 rfl (Nat.le_of_ble_eq_true rfl) (sDo_up (d := 3) (by omega) (s_digitAt (d := 0) r1 (htS _) (heS _) hn (by omega) (ofN_toInt (n := A + 1) (by omega)))) (fun r h9 hq9 => ?_)
    obtain ⟨rfl, rfl⟩ := hq9
    unfold numS
    cases hd : dgS (tx el n (A + 1)) with
    | none =>
      have e1 : dgI (tx el n (A + 1)) = Int32.ofInt (-1) := by unfold dgI; rw [hd]
      rw [e1]
      refine g_istore (i := 4) (L1 := [some (.ref rp), some (.int lo), some (.int hi), some (.int (Int32.ofNat (A + 1))), some (.int (Int32.ofInt (-1))), none]) rfl (Nat.le_of_ble_eq_true rfl) rfl ?_
      refine g_iload (i := 4) rfl rfl ?_
      refine g_iconst (n := (-1)) rfl ?_
      refine g_icmp_ne 43 rfl rfl (fun hc => absurd hc (by exact fun z => z rfl)) (fun _ => ?_)
      refine g_aload_n (i := 0) rfl rfl ?_
      refine g_aload_n (i := 0) rfl rfl ?_
      refine g_getfield (v := .int (Int32.ofNat (A + 1))) rfl r1 (by decide) rfl ?_
      refine g_virt1 (Qc := fun r h' => r = some (.int 0) ∧ h' = (h.set rp (rd tp flt (A + 1))).set rp (rd tp (Int32.ofNat (A + 1)) (A + 1))) rfl (by decide) rfl r1 rfl (Nat.le_of_ble_eq_true rfl) (sDo_up (d := 1) (by omega) (s_fails (d := 0) r1)) (fun r h8 hq9 => ?_)
      obtain ⟨rfl, rfl⟩ := hq9
      refine g_pop rfl rfl ?_
      refine g_iconst (n := (-1)) rfl ?_
      refine g_ireturn (ty := .int) rfl rfl rfl ?_
      exact ⟨rfl, A + 1, A + 1, by omega, setr _ _⟩
    | some dv =>
      obtain ⟨d9, -⟩ := dgS_lt hd
      have e1 : dgI (tx el n (A + 1)) = Int32.ofNat dv := by unfold dgI; rw [hd]
      rw [e1]
      have edv := ofN_toInt (n := dv) (by omega)
      have em1 : (Int32.ofInt (-1)).toInt = -1 := rfl
      refine g_istore (i := 4) (L1 := [some (.ref rp), some (.int lo), some (.int hi), some (.int (Int32.ofNat (A + 1))), some (.int (Int32.ofNat dv)), none]) rfl (Nat.le_of_ble_eq_true rfl) rfl ?_
      refine g_iload (i := 4) rfl rfl ?_
      refine g_iconst (n := (-1)) rfl ?_
      refine g_icmp_ne 43 rfl rfl (fun _ => ?_) (fun hc => absurd hc (by intro z; rw [z, em1] at edv; omega))
      refine g_aload_n (i := 0) rfl rfl ?_
      refine g_dup rfl rfl ?_
      refine g_getfield (v := .int (Int32.ofNat (A + 1))) rfl r1 (by decide) rfl ?_
      refine g_iconst (n := 1) rfl ?_
      refine g_iadd rfl ?_
      rw [ofN_add (by omega)]
      refine g_putfield (h1 := h.set rp (rd tp flt (A + 2))) rfl r1 (by decide) (Nat.le_of_ble_eq_true rfl) rfl (setr _ _) ?_
      have r2 := hrS (rd tp flt (A + 2))
      refine g_aload_n (i := 0) rfl rfl ?_
      refine g_aload_n (i := 0) rfl rfl ?_
      refine g_getfield (v := .int (Int32.ofNat (A + 2))) rfl r2 (by decide) rfl ?_
      refine g_virt1 (Qc := fun r h' => h' = h.set rp (rd tp flt (A + 2)) ∧ r = some (.int (dgI (tx el n (A + 2))))) rfl (by decide) rfl r2 rfl (Nat.le_of_ble_eq_true rfl) (sDo_up (d := 3) (by omega) (s_digitAt (d := 0) r2 (htS _) (heS _) hn (by omega) (ofN_toInt (n := A + 2) (by omega)))) (fun r h9 hq9 => ?_)
      obtain ⟨rfl, rfl⟩ := hq9
      cases hd2 : dgS (tx el n (A + 1 + 1)) with
      | none =>
        have e2 : dgI (tx el n (A + 2)) = Int32.ofInt (-1) := by unfold dgI; rw [hd2]
        rw [e2]
        refine g_istore (i := 5) (L1 := [some (.ref rp), some (.int lo), some (.int hi), some (.int (Int32.ofNat (A + 1))), some (.int (Int32.ofNat dv)), some (.int (Int32.ofInt (-1)))]) rfl (Nat.le_of_ble_eq_true rfl) rfl ?_
        refine g_iload (i := 5) rfl rfl ?_
        refine g_iconst (n := (-1)) rfl ?_
        refine g_icmp_eq 89 rfl rfl (fun _ => ?_) (fun hc => absurd hc (by exact fun z => z rfl))
        exact s_rnTail (v := dv) (A := A + 2) r2 (fun c => setr _ _) rfl (by omega) (by omega) rfl
      | some ev =>
        obtain ⟨d8, -⟩ := dgS_lt hd2
        have e2 : dgI (tx el n (A + 2)) = Int32.ofNat ev := by unfold dgI; rw [hd2]
        rw [e2]
        have eev := ofN_toInt (n := ev) (by omega)
        refine g_istore (i := 5) (L1 := [some (.ref rp), some (.int lo), some (.int hi), some (.int (Int32.ofNat (A + 1))), some (.int (Int32.ofNat dv)), some (.int (Int32.ofNat ev))]) rfl (Nat.le_of_ble_eq_true rfl) rfl ?_
        refine g_iload (i := 5) rfl rfl ?_
        refine g_iconst (n := (-1)) rfl ?_
        refine g_icmp_eq 89 rfl rfl (fun hc => absurd hc (by intro z; rw [z, em1] at eev; omega)) (fun _ => ?_)
        have e10 : (Int8.ofInt 10).toInt32.toInt = 10 := rfl
        have ee : (Int8.ofInt 10).toInt32 * Int32.ofNat dv + Int32.ofNat ev = Int32.ofNat (10 * dv + ev) := by
          apply Int32.toInt_inj.mp
          have m1 : ((Int8.ofInt 10).toInt32 * Int32.ofNat dv).toInt = 10 * dv := by rw [i_mul (by rw [e10, edv]; omega) (by rw [e10, edv]; omega), e10, edv]
          rw [i_add (by rw [m1, eev]; omega) (by rw [m1, eev]; omega), m1, eev, ofN_toInt (by omega)]
          omega
        refine g_bipush (n := 10) rfl ?_
        refine g_iload (i := 4) rfl rfl ?_
        refine g_imul rfl ?_
        refine g_iload (i := 5) rfl rfl ?_
        refine g_iadd rfl ?_
        rw [ee]
        refine g_istore (i := 4) (L1 := [some (.ref rp), some (.int lo), some (.int hi), some (.int (Int32.ofNat (A + 1))), some (.int (Int32.ofNat (10 * dv + ev))), some (.int (Int32.ofNat ev))]) rfl (Nat.le_of_ble_eq_true rfl) rfl ?_
        refine g_aload_n (i := 0) rfl rfl ?_
        refine g_dup rfl rfl ?_
        refine g_getfield (v := .int (Int32.ofNat (A + 2))) rfl r2 (by decide) rfl ?_
        refine g_iconst (n := 1) rfl ?_
        refine g_iadd rfl ?_
        rw [ofN_add (by omega)]
        refine g_putfield (h1 := h.set rp (rd tp flt (A + 3))) rfl r2 (by decide) (Nat.le_of_ble_eq_true rfl) rfl (setr _ _) ?_
        exact s_rnTail (v := 10 * dv + ev) (A := A + 3) (hrS _) (fun c => setr _ _) rfl (by omega) (by omega) rfl
  · skip
    refine g_aload_n (i := 0) rfl rfl ?_
    refine g_bipush (n := 32) rfl ?_
    refine g_virt1 (Qc := fun r h' => r = some (.int 0) ∧ h' = h.set rp (rd tp (Int32.ofNat A) A)) rfl (by decide) rfl hr rfl (Nat.le_of_ble_eq_true rfl) (sDo_up (d := 3) (by omega) (s_passesN (d := 0) hr ht he hn hA hb)) (fun r h9 hq9 => ?_)
    obtain ⟨rfl, rfl⟩ := hq9
    refine g_if_ne 11 rfl rfl (fun hc => absurd hc (by decide)) (fun _ => ?_)
    refine g_iconst (n := (-1)) rfl ?_
    refine g_ireturn (ty := .int) rfl rfl rfl ?_
    rw [if_neg hb]
    exact ⟨rfl, A, A, by omega, rfl⟩
end
section
/-! ===== texts: words ===== -/
/-- how many letters of a word stand from a place on -/
def alS (T : Nat → Int32) (p v : Nat) : Nat → Nat → Nat
  | 0, i => i
  | f + 1, i => if T (p + i) = sTxC v i then alS T p v f (i + 1) else i
theorem alS_le (T : Nat → Int32) (p v : Nat) : ∀ f i, i ≤ alS T p v f i ∧ alS T p v f i ≤ i + f := by
  intro f
  induction f with
  | zero => intro i; exact ⟨Nat.le_refl _, Nat.le_refl _⟩
  | succ f ih =>
    intro i
    unfold alS
    by_cases c : T (p + i) = sTxC v i
    · rw [if_pos c]
      have := ih (i + 1)
      omega
    · rw [if_neg c]
      omega
def wlS (v : Nat) : Nat := sTxL.getD v 0
theorem wlS_le (v : Nat) : wlS v ≤ 5 := by
  unfold wlS
  match v with
  | 0 | 1 | 2 | 3 | 4 | 5 | 6 => decide
  | k + 7 => exact (show (0 : Nat) ≤ 5 by decide)
theorem g_len {X : sX} {k d pc v c : Nat} {L : sLo} {st : List Value} {h : sHp} {Q : Option Value → sHp → Prop} (hF : sFk k pc = some (.invokeinterface 3000 c)) (hv : v < 7) (hcat : (st.map (fun v => v.category)).sum ≤ 8) (hd : 2 ≤ d) (hp : sLen (.invokeinterface 3000 c) = 3) (g : sGo X k d (pc + 3) L (.int (Int32.ofNat (wlS v)) :: st) h Q) : sGo X k d pc L (.ref (2000000 + v) :: st) h Q := by
  refine go_call (k1 := 300) (as := [.ref (2000000 + v)]) (rest := st) (Qc := fun r h' => r = some (.int (Int32.ofNat (wlS v))) ∧ h' = h) hF rfl ?_ hcat (sDo_up hd ⟨0, _, _, s_len_at hv h, rfl, rfl⟩) (fun r h1 hq => ?_)
  · unfold sCal
    dsimp only
    rw [show sPop (3000 - 3000) (.ref (2000000 + v) :: st) = some ([], .ref (2000000 + v) :: st) from rfl]
    exact if_pos (b_itf2 hv)
  · obtain ⟨rfl, rfl⟩ := hq
    exact g
theorem g_chr {X : sX} {k d pc v c : Nat} {L : sLo} {st : List Value} {h : sHp} {Q : Option Value → sHp → Prop} {x : Int32} (hF : sFk k pc = some (.invokeinterface 3001 c)) (hv : v < 7) (hcat : (st.map (fun v => v.category)).sum ≤ 8) (hd : 4 ≤ d) (hx : ¬ (x < 0 ∨ wlS v ≤ x.toNatClampNeg)) (g : sGo X k d (pc + 3) L (.int (sTxC v x.toNatClampNeg) :: st) h Q) : sGo X k d pc L (.int x :: .ref (2000000 + v) :: st) h Q := by
  refine go_call (k1 := 301) (as := [.ref (2000000 + v), .int x]) (rest := st) (Qc := fun r h' => r = some (.int (sTxC v x.toNatClampNeg)) ∧ h' = h) hF rfl ?_ hcat (sDo_up hd ⟨0, _, _, s_chr_at hv h hx, rfl, rfl⟩) (fun r h1 hq => ?_)
  · unfold sCal
    dsimp only
    rw [show sPop (3001 - 3000) (.int x :: .ref (2000000 + v) :: st) = some ([.int x], .ref (2000000 + v) :: st) by unfold sPop; rw [if_pos (by simp only [List.length_cons]; omega)]; rfl]
    exact if_pos (b_itf2 hv)
  · obtain ⟨rfl, rfl⟩ := hq
    exact g
theorem s_lettersAlike_go {d : Nat} {h : sHp} {rp tp ep n A v : Nat} {ot flt : Int32} {el : Nat → Int64} (hr : h[rp]? = some (rd tp flt A)) (ht : h[tp]? = some (.inr (7, [.int ot, .int (Int32.ofNat n), .ref ep]))) (he : h[ep]? = some (.inl (1, 100, .inr (.inl el)))) (hn : n ≤ 100) (hA : A < 990) (hv : v < 7) (hd : 4 ≤ d) : ∀ (f i : Nat), f + i = wlS v → sGo none 71 d 2 [some (.ref rp), some (.ref (2000000 + v)), some (.int (Int32.ofNat i))] [] h (fun r h' => h' = h ∧ r = some (.int (Int32.ofNat (alS (tx el n) A v f i)))) := by
  have hw := wlS_le v
  have eA := ofN_toInt (n := A) (by omega)
  have ew := ofN_toInt (n := wlS v) (by omega)
  intro f
  induction f with
  | zero =>
    intro i hi
    have ei := ofN_toInt (n := i) (by omega)
    refine g_iload_n (i := 2) rfl rfl ?_
    refine g_aload_n (i := 1) rfl rfl ?_
    refine g_len rfl hv (Nat.le_of_ble_eq_true rfl) (by omega) rfl ?_
    refine g_icmp_ge 39 rfl rfl (fun _ => ?_) (fun hc => absurd hc (by rw [i_le, ew, ei]; omega))
    refine g_aload_n (i := 1) rfl rfl ?_
    refine g_len rfl hv (Nat.le_of_ble_eq_true rfl) (by omega) rfl ?_
    refine g_ireturn (ty := .int) rfl rfl rfl ?_
    exact ⟨rfl, by unfold alS; rw [show wlS v = i by omega]⟩
  | succ f ih =>
    intro i hi
    have ei := ofN_toInt (n := i) (by omega)
    refine g_iload_n (i := 2) rfl rfl ?_
    refine g_aload_n (i := 1) rfl rfl ?_
    refine g_len rfl hv (Nat.le_of_ble_eq_true rfl) (by omega) rfl ?_
    refine g_icmp_ge 39 rfl rfl (fun hc => absurd hc (by rw [i_le, ew, ei]; omega)) (fun _ => ?_)
    refine g_aload_n (i := 0) rfl rfl ?_
    refine g_getfield (v := .ref tp) rfl hr (by decide) rfl ?_
    refine g_aload_n (i := 0) rfl rfl ?_
    refine g_getfield (v := .int (Int32.ofNat A)) rfl hr (by decide) rfl ?_
    refine g_iload_n (i := 2) rfl rfl ?_
    refine g_iadd rfl ?_
    have eai : (Int32.ofNat A + Int32.ofNat i).toInt = ((A + i : Nat) : Int) := by rw [i_add (by rw [eA, ei]; omega) (by rw [eA, ei]; omega), eA, ei]; omega
    refine g_virt1 (Qc := fun r h' => h' = h ∧ r = some (.int (tx el n (A + i)))) rfl (by decide) rfl ht rfl (Nat.le_of_ble_eq_true rfl) (sDo_up (d := 2) (by omega) (s_intR (d := 0) ht he hn eai)) (fun r h9 hq9 => ?_)
    obtain ⟨rfl, rfl⟩ := hq9
    refine g_aload_n (i := 1) rfl rfl ?_
    refine g_iload_n (i := 2) rfl rfl ?_
    refine g_chr rfl hv (Nat.le_of_ble_eq_true rfl) (by omega) (i_in (by omega) (by omega)) ?_
    rw [i_nat ei]
    unfold alS
    refine g_icmp_eq 33 rfl rfl (fun c1 => ?_) (fun c1 => ?_)
    · skip
      rw [if_pos c1]
      refine g_iinc (i := 2) (L1 := [some (.ref rp), some (.ref (2000000 + v)), some (.int ((Int32.ofNat i) + Int32.ofInt 1))]) rfl rfl rfl ?_
      rw [ofN_add (by omega)]
      refine g_goto 2 rfl rfl ?_
      exact ih (i + 1) (by omega)
    · skip
      rw [if_neg c1]
      refine g_iload_n (i := 2) rfl rfl ?_
      refine g_ireturn (ty := .int) rfl rfl rfl ?_
      exact ⟨rfl, rfl⟩
theorem s_lettersAlike {d : Nat} {h : sHp} {rp tp ep n A v : Nat} {ot flt : Int32} {el : Nat → Int64} (hr : h[rp]? = some (rd tp flt A)) (ht : h[tp]? = some (.inr (7, [.int ot, .int (Int32.ofNat n), .ref ep]))) (he : h[ep]? = some (.inl (1, 100, .inr (.inl el)))) (hn : n ≤ 100) (hA : A < 990) (hv : v < 7) (hd : 4 ≤ d) : sDo (d + 1) 71 [.ref rp, .ref (2000000 + v)] h (fun r h' => h' = h ∧ r = some (.int (Int32.ofNat (alS (tx el n) A v (wlS v) 0)))) := by
  refine sDo_of (d := d) (nL := 3) (L := [some (.ref rp), some (.ref (2000000 + v)), none]) rfl rfl ?_
  refine g_iconst (n := 0) rfl ?_
  refine g_istore_n (i := 2) (L1 := [some (.ref rp), some (.ref (2000000 + v)), some (.int (Int32.ofInt 0))]) rfl (Nat.le_of_ble_eq_true rfl) rfl ?_
  exact s_lettersAlike_go hr ht he hn hA hv hd (wlS v) 0 rfl
theorem s_wordOf {d : Nat} {h : sHp} {v : Nat} (hv : v < 7) : sDo (d + 1) 69 [.int (Int32.ofNat v)] h (fun r h' => h' = h ∧ r = some (.ref (2000000 + v))) := by
  have ev := ofN_toInt (n := v) (by omega)
  have hF : sFk 69 1 = some (.tableswitch 57 0 5 #[39, 42, 45, 48, 51, 54]) := rfl
  refine sDo_of (d := d) (nL := 1) (L := [some (.int (Int32.ofNat v))]) rfl rfl ?_
  refine g_iload_n (i := 0) rfl rfl ?_
  match v, hv, ev with
  | 0, _, ev =>
    refine go_jmp (pc1 := 40) (st1 := []) hF rfl rfl ?_
    refine go_heap (st1 := [.ref 2000000]) (h1 := h) (ins := .ldc 4294967296) rfl rfl rfl rfl ?_
    exact g_areturn rfl rfl ⟨rfl, rfl⟩
  | 1, _, ev =>
    refine go_jmp (pc1 := 43) (st1 := []) hF rfl rfl ?_
    refine go_heap (st1 := [.ref 2000001]) (h1 := h) (ins := .ldc 4294967297) rfl rfl rfl rfl ?_
    exact g_areturn rfl rfl ⟨rfl, rfl⟩
  | 2, _, ev =>
    refine go_jmp (pc1 := 46) (st1 := []) hF rfl rfl ?_
    refine go_heap (st1 := [.ref 2000002]) (h1 := h) (ins := .ldc 4294967298) rfl rfl rfl rfl ?_
    exact g_areturn rfl rfl ⟨rfl, rfl⟩
  | 3, _, ev =>
    refine go_jmp (pc1 := 49) (st1 := []) hF rfl rfl ?_
    refine go_heap (st1 := [.ref 2000003]) (h1 := h) (ins := .ldc 4294967299) rfl rfl rfl rfl ?_
    exact g_areturn rfl rfl ⟨rfl, rfl⟩
  | 4, _, ev =>
    refine go_jmp (pc1 := 52) (st1 := []) hF rfl rfl ?_
    refine go_heap (st1 := [.ref 2000004]) (h1 := h) (ins := .ldc 4294967300) rfl rfl rfl rfl ?_
    exact g_areturn rfl rfl ⟨rfl, rfl⟩
  | 5, _, ev =>
    refine go_jmp (pc1 := 55) (st1 := []) hF rfl rfl ?_
    refine go_heap (st1 := [.ref 2000005]) (h1 := h) (ins := .ldc 4294967301) rfl rfl rfl rfl ?_
    exact g_areturn rfl rfl ⟨rfl, rfl⟩
  | 6, _, ev =>
    refine go_jmp (pc1 := 58) (st1 := []) hF rfl rfl ?_
    refine go_heap (st1 := [.ref 2000006]) (h1 := h) (ins := .ldc 4294967302) rfl rfl rfl rfl ?_
    exact g_areturn rfl rfl ⟨rfl, rfl⟩
  | k + 7, hv, _ => exact absurd hv (by omega)
end
section
/-! ===== texts: the word that stands ===== -/
def wdS (T : Nat → Int32) (p : Nat) : Nat → Nat → Option Nat
  | 0, _ => none
  | f + 1, v => if alS T p v (wlS v) 0 = wlS v then some v else wdS T p f (v + 1)
def qWord (rp tp : Nat) (flt : Int32) (A : Nat) (h : sHp) (q : Option Nat) (r : Option Value) (h' : sHp) : Prop := match q with
  | some v => r = some (.int (Int32.ofNat v)) ∧ h' = h.set rp (rd tp flt (A + wlS v))
  | none => r = some (.int (Int32.ofInt (-1))) ∧ ∃ F A' : Nat, F < 999 ∧ h' = h.set rp (rd tp (Int32.ofNat F) A')
theorem s_readWord_go {d : Nat} {h : sHp} {rp tp ep n A Wn : Nat} {ot flt : Int32} {el : Nat → Int64} (hr : h[rp]? = some (rd tp flt A)) (ht : h[tp]? = some (.inr (7, [.int ot, .int (Int32.ofNat n), .ref ep]))) (he : h[ep]? = some (.inl (1, 100, .inr (.inl el)))) (hn : n ≤ 100) (hA : A < 990) (hW : Wn ≤ 7) (hd : 5 ≤ d) : ∀ (f v F : Nat) (o4 o5 : Option Value), f + v = Wn → F ≤ 5 → sGo none 70 d 23 [some (.ref rp), some (.int (Int32.ofNat Wn)), some (.int (Int32.ofNat F)), some (.int (Int32.ofNat v)), o4, o5] [] h (qWord rp tp flt A h (wdS (tx el n) A f v)) := by
  have eA := ofN_toInt (n := A) (by omega)
  have eW := ofN_toInt (n := Wn) (by omega)
  intro f
  induction f with
  | zero =>
    intro v F o4 o5 hv hF
    have ev := ofN_toInt (n := v) (by omega)
    have eF := ofN_toInt (n := F) (by omega)
    refine g_iload_n (i := 3) rfl rfl ?_
    refine g_iload_n (i := 1) rfl rfl ?_
    refine g_icmp_ge 78 rfl rfl (fun _ => ?_) (fun hc => absurd hc (by rw [i_le, eW, ev]; omega))
    refine g_aload_n (i := 0) rfl rfl ?_
    refine g_aload_n (i := 0) rfl rfl ?_
    refine g_getfield (v := .int (Int32.ofNat A)) rfl hr (by decide) rfl ?_
    refine g_iload_n (i := 2) rfl rfl ?_
    refine g_iadd rfl ?_
    have ee : Int32.ofNat A + Int32.ofNat F = Int32.ofNat (A + F) := by
      apply Int32.toInt_inj.mp
      rw [i_add (by rw [eA, eF]; omega) (by rw [eA, eF]; omega), eA, eF, ofN_toInt (by omega)]
      omega
    rw [ee]
    refine g_virt1 (Qc := fun r h' => r = some (.int 0) ∧ h' = h.set rp (rd tp (Int32.ofNat (A + F)) A)) rfl (by decide) rfl hr rfl (Nat.le_of_ble_eq_true rfl) (sDo_up (d := 1) (by omega) (s_fails (d := 0) hr)) (fun r h8 hq9 => ?_)
    obtain ⟨rfl, rfl⟩ := hq9
    refine g_pop rfl rfl ?_
    refine g_iconst (n := (-1)) rfl ?_
    refine g_ireturn (ty := .int) rfl rfl rfl ?_
    exact ⟨rfl, A + F, A, by omega, rfl⟩
  | succ f ih =>
    intro v F o4 o5 hv hF
    have ev := ofN_toInt (n := v) (by omega)
    have eF := ofN_toInt (n := F) (by omega)
    have wl := wlS_le v
    have al := alS_le (tx el n) A v (wlS v) 0
    have ea := ofN_toInt (n := alS (tx el n) A v (wlS v) 0) (by omega)
    have ew := ofN_toInt (n := wlS v) (by omega)
    refine g_iload_n (i := 3) rfl rfl ?_
    refine g_iload_n (i := 1) rfl rfl ?_
    refine g_icmp_ge 78 rfl rfl (fun hc => absurd hc (by rw [i_le, eW, ev]; omega)) (fun _ => ?_)
    refine g_iload_n (i := 3) rfl rfl ?_
    refine g_static1 (Qc := fun r h' => h' = h ∧ r = some (.ref (2000000 + v))) rfl (by decide) rfl (Nat.le_of_ble_eq_true rfl) (sDo_up (d := 1) (by omega) (s_wordOf (d := 0) (by omega))) (fun r h9 hq9 => ?_)
    obtain ⟨rfl, rfl⟩ := hq9
    refine g_astore (i := 4) (L1 := [some (.ref rp), some (.int (Int32.ofNat Wn)), some (.int (Int32.ofNat F)), some (.int (Int32.ofNat v)), some (.ref (2000000 + v)), o5]) rfl (Nat.le_of_ble_eq_true rfl) rfl ?_
    refine g_aload_n (i := 0) rfl rfl ?_
    refine g_aload (i := 4) rfl rfl ?_
    refine g_virt1 (Qc := fun r h' => h' = h9 ∧ r = some (.int (Int32.ofNat (alS (tx el n) A v (wlS v) 0)))) rfl (by decide) rfl hr rfl (Nat.le_of_ble_eq_true rfl) (sDo_up (d := 5) (by omega) (s_lettersAlike (d := 4) hr ht he hn hA (by omega) (Nat.le_refl _))) (fun r h8 hq9 => ?_)
    obtain ⟨rfl, rfl⟩ := hq9
    refine g_istore (i := 5) (L1 := [some (.ref rp), some (.int (Int32.ofNat Wn)), some (.int (Int32.ofNat F)), some (.int (Int32.ofNat v)), some (.ref (2000000 + v)), some (.int (Int32.ofNat (alS (tx el n) A v (wlS v) 0)))]) rfl (Nat.le_of_ble_eq_true rfl) rfl ?_
    refine g_iload (i := 5) rfl rfl ?_
    refine g_aload (i := 4) rfl rfl ?_
    refine g_len rfl (by omega) (Nat.le_of_ble_eq_true rfl) (by omega) rfl ?_
    unfold wdS
    refine g_icmp_ne 65 rfl rfl (fun c1 => ?_) (fun c1 => ?_)
    · skip
      rw [if_neg (fun z => c1 (congrArg Int32.ofNat z))]
      refine g_iload_n (i := 2) rfl rfl ?_
      refine g_iload (i := 5) rfl rfl ?_
      refine g_max rfl (Nat.le_of_ble_eq_true rfl) ?_
      obtain ⟨F', hF', eF'⟩ : ∃ F' : Nat, F' ≤ 5 ∧ (if Int32.ofNat F < Int32.ofNat (alS (tx el n) A v (wlS v) 0) then Int32.ofNat (alS (tx el n) A v (wlS v) 0) else Int32.ofNat F) = Int32.ofNat F' := by
        split
        · exact ⟨_, by omega, rfl⟩
        · exact ⟨F, hF, rfl⟩
      rw [eF']
      refine g_istore_n (i := 2) (L1 := [some (.ref rp), some (.int (Int32.ofNat Wn)), some (.int (Int32.ofNat F')), some (.int (Int32.ofNat v)), some (.ref (2000000 + v)), some (.int (Int32.ofNat (alS (tx el n) A v (wlS v) 0)))]) rfl (Nat.le_of_ble_eq_true rfl) rfl ?_
      refine g_iinc (i := 3) (L1 := [some (.ref rp), some (.int (Int32.ofNat Wn)), some (.int (Int32.ofNat F')), some (.int ((Int32.ofNat v) + Int32.ofInt 1)), some (.ref (2000000 + v)), some (.int (Int32.ofNat (alS (tx el n) A v (wlS v) 0)))]) rfl rfl rfl ?_
      rw [ofN_add (by omega)]
      refine g_goto 23 rfl rfl ?_
      exact ih (v + 1) F' _ _ (by omega) hF'
    · skip
      have c2 : alS (tx el n) A v (wlS v) 0 = wlS v := by
        have := congrArg Int32.toInt c1
        rw [ea, ew] at this
        omega
      rw [if_pos c2]
      refine g_aload_n (i := 0) rfl rfl ?_
      refine g_dup rfl rfl ?_
      refine g_getfield (v := .int (Int32.ofNat A)) rfl hr (by decide) rfl ?_
      refine g_iload (i := 5) rfl rfl ?_
      have ee : Int32.ofNat A + Int32.ofNat (alS (tx el n) A v (wlS v) 0) = Int32.ofNat (A + wlS v) := by
        apply Int32.toInt_inj.mp
        rw [i_add (by rw [eA, ea]; omega) (by rw [eA, ea]; omega), eA, ea, ofN_toInt (by omega), c2]
        omega
      refine g_iadd rfl ?_
      rw [ee]
      refine g_putfield (h1 := h8.set rp (rd tp flt (A + wlS v))) rfl hr (by decide) (Nat.le_of_ble_eq_true rfl) rfl rfl ?_
      refine g_iload_n (i := 3) rfl rfl ?_
      refine g_ireturn (ty := .int) rfl rfl rfl ?_
      exact ⟨rfl, rfl⟩
theorem s_readWord {d : Nat} {h : sHp} {rp tp ep n A H : Nat} {ot flt : Int32} {el : Nat → Int64} {fs : List Value} (hr : h[rp]? = some (rd tp flt A)) (ht : h[tp]? = some (.inr (7, [.int ot, .int (Int32.ofNat n), .ref ep]))) (he : h[ep]? = some (.inl (1, 100, .inr (.inl el)))) (hn : n ≤ 100) (hA : A < 990) (hf : h[27]? = some (.inr (3, fs))) (f11 : fs[11]? = some (.int (Int32.ofNat H))) (hH : H ≤ 5) : sDo (d + 6) 70 [.ref rp] h (qWord rp tp flt A h (wdS (tx el n) A (if H < 5 then 7 else 6) 0)) := by
  have eH := ofN_toInt (n := H) (by omega)
  have e5 : (Int32.ofInt 5).toInt = 5 := rfl
  refine sDo_of (d := d + 5) (nL := 6) (L := [some (.ref rp), none, none, none, none, none]) rfl rfl ?_
  refine g_aload_n (i := 0) rfl rfl ?_
  refine g_getfield (v := .ref 27) rfl hr (by decide) rfl ?_
  refine g_getfield (v := .int (Int32.ofNat H)) rfl hf (by decide) f11 ?_
  refine g_iconst (n := 5) rfl ?_
  by_cases h5 : H < 5
  · skip
    rw [if_pos h5]
    refine g_icmp_ge 16 rfl rfl (fun hc => absurd hc (by rw [i_le, eH, e5]; omega)) (fun _ => ?_)
    refine g_bipush (n := 7) rfl ?_
    refine g_goto 18 rfl rfl ?_
    refine g_istore_n (i := 1) (L1 := [some (.ref rp), some (.int (Int8.ofInt 7).toInt32), none, none, none, none]) rfl (Nat.le_of_ble_eq_true rfl) rfl ?_
    refine g_iconst (n := 0) rfl ?_
    refine g_istore_n (i := 2) (L1 := [some (.ref rp), some (.int (Int8.ofInt 7).toInt32), some (.int (Int32.ofInt 0)), none, none, none]) rfl (Nat.le_of_ble_eq_true rfl) rfl ?_
    refine g_iconst (n := 0) rfl ?_
    refine g_istore_n (i := 3) (L1 := [some (.ref rp), some (.int (Int8.ofInt 7).toInt32), some (.int (Int32.ofInt 0)), some (.int (Int32.ofInt 0)), none, none]) rfl (Nat.le_of_ble_eq_true rfl) rfl ?_
    exact s_readWord_go hr ht he hn hA (by decide) (by omega) 7 0 0 _ _ rfl (by decide)
  · skip
    rw [if_neg h5]
    refine g_icmp_ge 16 rfl rfl (fun _ => ?_) (fun hc => absurd hc (by rw [i_le, eH, e5]; omega))
    refine g_bipush (n := 6) rfl ?_
    refine g_istore_n (i := 1) (L1 := [some (.ref rp), some (.int (Int8.ofInt 6).toInt32), none, none, none, none]) rfl (Nat.le_of_ble_eq_true rfl) rfl ?_
    refine g_iconst (n := 0) rfl ?_
    refine g_istore_n (i := 2) (L1 := [some (.ref rp), some (.int (Int8.ofInt 6).toInt32), some (.int (Int32.ofInt 0)), none, none, none]) rfl (Nat.le_of_ble_eq_true rfl) rfl ?_
    refine g_iconst (n := 0) rfl ?_
    refine g_istore_n (i := 3) (L1 := [some (.ref rp), some (.int (Int8.ofInt 6).toInt32), some (.int (Int32.ofInt 0)), some (.int (Int32.ofInt 0)), none, none]) rfl (Nat.le_of_ble_eq_true rfl) rfl ?_
    exact s_readWord_go hr ht he hn hA (by decide) (by omega) 6 0 0 _ _ rfl (by decide)
end
section
/-! ===== the class's field, exactly ===== -/
/-- a field of the class: its ints and longs by their places among the fields, its soils, shares, worths, fond, owned -/
def CF : Type := (Nat → Int32) × (Nat → Int64) × (Nat → Int64) × (Nat → Int32) × (Nat → Nat → Int32) × (Nat → Int32) × (Nat → Int64)
def fO (p : Nat) (I : Nat → Int32) (G : Nat → Int64) : va_E := .inr (3, [.int (I 0), .int (I 1), .long (G 2), .long (G 3), .long (G 4), .long (G 5), .long (G 6), .int (I 7), .int (I 8), .int (I 9), .int (I 10), .int (I 11), .ref (p + 1), .ref (p + 2), .ref (p + 3), .ref (p + 9), .ref (p + 10)])
def FC (h : sHp) (p : Nat) (c : CF) : Prop := h[p]? = some (fO p c.1 c.2.1) ∧ h[p + 1]? = some (.inl (1, 6, .inr (.inl c.2.2.1))) ∧ h[p + 2]? = some (.inl (0, 5, .inl c.2.2.2.1)) ∧ (∃ f : Nat → Option Nat, h[p + 3]? = some (.inl (5, 5, .inr (.inr (.inr (.inr f))))) ∧ ∀ k, k < 5 → f k = some (p + 4 + k)) ∧ (∀ k, k < 5 → h[p + 4 + k]? = some (.inl (0, 6, .inl (c.2.2.2.2.1 k)))) ∧ h[p + 9]? = some (.inl (2, 5, .inl c.2.2.2.2.2.1)) ∧ h[p + 10]? = some (.inl (1, 7, .inr (.inl c.2.2.2.2.2.2)))
/-- a cell outside a field -/
theorem FC_out {h : sHp} {p q : Nat} {c : CF} {x : va_E} (F : FC h p c) (hq : q < p ∨ p + 10 < q) : FC (h.set q x) p c := by
  obtain ⟨a0, a1, a2, ⟨f, a3, a4⟩, a5, a6, a7⟩ := F
  exact ⟨by rw [s_set_ne (by omega)]; exact a0, by rw [s_set_ne (by omega)]; exact a1, by rw [s_set_ne (by omega)]; exact a2, ⟨f, by rw [s_set_ne (by omega)]; exact a3, a4⟩, fun k hk => by rw [s_set_ne (by omega)]; exact a5 k hk, by rw [s_set_ne (by omega)]; exact a6, by rw [s_set_ne (by omega)]; exact a7⟩
theorem FC_0 {h : sHp} {p : Nat} {c : CF} {I : Nat → Int32} {G : Nat → Int64} (F : FC h p c) : FC (h.set p (fO p I G)) p (I, G, c.2.2) := by
  obtain ⟨a0, a1, a2, ⟨f, a3, a4⟩, a5, a6, a7⟩ := F
  exact ⟨s_set_eq a0, by rw [s_set_ne (by omega)]; exact a1, by rw [s_set_ne (by omega)]; exact a2, ⟨f, by rw [s_set_ne (by omega)]; exact a3, a4⟩, fun k hk => by rw [s_set_ne (by omega)]; exact a5 k hk, by rw [s_set_ne (by omega)]; exact a6, by rw [s_set_ne (by omega)]; exact a7⟩
theorem FC_1 {h : sHp} {p : Nat} {c : CF} {so : Nat → Int64} (F : FC h p c) : FC (h.set (p + 1) (.inl (1, 6, .inr (.inl so)))) p (c.1, c.2.1, so, c.2.2.2) := by
  obtain ⟨a0, a1, a2, ⟨f, a3, a4⟩, a5, a6, a7⟩ := F
  exact ⟨by rw [s_set_ne (by omega)]; exact a0, s_set_eq a1, by rw [s_set_ne (by omega)]; exact a2, ⟨f, by rw [s_set_ne (by omega)]; exact a3, a4⟩, fun k hk => by rw [s_set_ne (by omega)]; exact a5 k hk, by rw [s_set_ne (by omega)]; exact a6, by rw [s_set_ne (by omega)]; exact a7⟩
theorem FC_2 {h : sHp} {p : Nat} {c : CF} {sh : Nat → Int32} (F : FC h p c) : FC (h.set (p + 2) (.inl (0, 5, .inl sh))) p (c.1, c.2.1, c.2.2.1, sh, c.2.2.2.2) := by
  obtain ⟨a0, a1, a2, ⟨f, a3, a4⟩, a5, a6, a7⟩ := F
  exact ⟨by rw [s_set_ne (by omega)]; exact a0, by rw [s_set_ne (by omega)]; exact a1, s_set_eq a2, ⟨f, by rw [s_set_ne (by omega)]; exact a3, a4⟩, fun k hk => by rw [s_set_ne (by omega)]; exact a5 k hk, by rw [s_set_ne (by omega)]; exact a6, by rw [s_set_ne (by omega)]; exact a7⟩
theorem FC_4 {h : sHp} {p k0 : Nat} {c : CF} {w : Nat → Int32} (F : FC h p c) (hk0 : k0 < 5) : FC (h.set (p + 4 + k0) (.inl (0, 6, .inl w))) p (c.1, c.2.1, c.2.2.1, c.2.2.2.1, (fun k => if k = k0 then w else c.2.2.2.2.1 k), c.2.2.2.2.2) := by
  obtain ⟨a0, a1, a2, ⟨f, a3, a4⟩, a5, a6, a7⟩ := F
  refine ⟨by rw [s_set_ne (by omega)]; exact a0, by rw [s_set_ne (by omega)]; exact a1, by rw [s_set_ne (by omega)]; exact a2, ⟨f, by rw [s_set_ne (by omega)]; exact a3, a4⟩, fun k hk => ?_, by rw [s_set_ne (by omega)]; exact a6, by rw [s_set_ne (by omega)]; exact a7⟩
  by_cases e : k = k0
  · rw [e]
    show _ = (some (.inl (0, 6, .inl (if k0 = k0 then w else c.2.2.2.2.1 k0))) : Option va_E)
    rw [if_pos rfl]
    exact s_set_eq (a5 k0 hk0)
  · rw [s_set_ne (by omega)]
    show _ = (some (.inl (0, 6, .inl (if k = k0 then w else c.2.2.2.2.1 k))) : Option va_E)
    rw [if_neg e]
    exact a5 k hk
theorem FC_9 {h : sHp} {p : Nat} {c : CF} {fo : Nat → Int32} (F : FC h p c) : FC (h.set (p + 9) (.inl (2, 5, .inl fo))) p (c.1, c.2.1, c.2.2.1, c.2.2.2.1, c.2.2.2.2.1, fo, c.2.2.2.2.2.2) := by
  obtain ⟨a0, a1, a2, ⟨f, a3, a4⟩, a5, a6, a7⟩ := F
  exact ⟨by rw [s_set_ne (by omega)]; exact a0, by rw [s_set_ne (by omega)]; exact a1, by rw [s_set_ne (by omega)]; exact a2, ⟨f, by rw [s_set_ne (by omega)]; exact a3, a4⟩, fun k hk => by rw [s_set_ne (by omega)]; exact a5 k hk, s_set_eq a6, by rw [s_set_ne (by omega)]; exact a7⟩
theorem FC_10 {h : sHp} {p : Nat} {c : CF} {ow : Nat → Int64} (F : FC h p c) : FC (h.set (p + 10) (.inl (1, 7, .inr (.inl ow)))) p (c.1, c.2.1, c.2.2.1, c.2.2.2.1, c.2.2.2.2.1, c.2.2.2.2.2.1, ow) := by
  obtain ⟨a0, a1, a2, ⟨f, a3, a4⟩, a5, a6, a7⟩ := F
  exact ⟨by rw [s_set_ne (by omega)]; exact a0, by rw [s_set_ne (by omega)]; exact a1, by rw [s_set_ne (by omega)]; exact a2, ⟨f, by rw [s_set_ne (by omega)]; exact a3, a4⟩, fun k hk => by rw [s_set_ne (by omega)]; exact a5 k hk, by rw [s_set_ne (by omega)]; exact a6, s_set_eq a7⟩
/-- nothing but a field has changed -/
def fE (p : Nat) (h h' : sHp) : Prop := h'.length = h.length ∧ ∀ q, (q < p ∨ p + 10 < q) → h'[q]? = h[q]?
theorem fE_rfl {p : Nat} {h : sHp} : fE p h h := ⟨rfl, fun _ _ => rfl⟩
theorem fE_tr {p : Nat} {h h1 h2 : sHp} (a : fE p h h1) (b : fE p h1 h2) : fE p h h2 := ⟨b.1.trans a.1, fun q hq => (b.2 q hq).trans (a.2 q hq)⟩
theorem fE_set {p q : Nat} {h h1 : sHp} {x : va_E} (a : fE p h h1) (h0 : p ≤ q) (h1' : q ≤ p + 10) : fE p h (h1.set q x) := ⟨by rw [List.length_set]; exact a.1, fun q' hq => by rw [s_set_ne (by omega)]; exact a.2 q' hq⟩

theorem s_squares {d : Nat} {h : sHp} {p : Nat} {c : CF} (F : FC h p c) : sDo (d + 1) 21 [.ref p] h (fun r h' => h' = h ∧ r = some (.int (c.1 0 * c.1 1))) := by
  have a0 := F.1
  refine sDo_of (d := d) (nL := 1) (L := [some (.ref p)]) rfl rfl ?_
  refine g_aload_n (i := 0) rfl rfl ?_
  refine g_getfield (v := .int (c.1 0)) rfl a0 (by decide) rfl ?_
  refine g_aload_n (i := 0) rfl rfl ?_
  refine g_getfield (v := .int (c.1 1)) rfl a0 (by decide) rfl ?_
  refine g_imul rfl ?_
  refine g_ireturn (ty := .int) rfl rfl rfl ?_
  exact ⟨rfl, rfl⟩
theorem s_isHeir3 {d : Nat} {h : sHp} {p : Nat} {c : CF} {i b : Int32} (F : FC h p c) (hb : b = if 0 ≤ i.toInt ∧ i.toInt < (c.1 11).toInt ∧ i.toInt < 5 then 1 else 0) : sDo (d + 1) 23 [.ref p, .int i] h (fun r h' => h' = h ∧ r = some (.int b)) := by
  have a0 := F.1
  have e0 : (0 : Int32).toInt = 0 := rfl
  have e5 : (Int32.ofInt 5).toInt = 5 := rfl
  refine sDo_of (d := d) (nL := 2) (L := [some (.ref p), some (.int i)]) rfl rfl ?_
  refine g_iload_n (i := 1) rfl rfl ?_
  refine g_if_lt 21 rfl rfl (fun c1 => ?_) (fun c1 => ?_)
  · skip
    rw [i_lt, e0] at c1
    refine g_iconst (n := 0) rfl ?_
    refine g_ireturn (ty := .boolean) rfl rfl (by decide) ?_
    rw [hb, if_neg (by omega)]; exact ⟨rfl, rfl⟩
  · skip
    rw [i_lt, e0] at c1
    refine g_iload_n (i := 1) rfl rfl ?_
    refine g_aload_n (i := 0) rfl rfl ?_
    refine g_getfield (v := .int (c.1 11)) rfl a0 (by decide) rfl ?_
    refine g_icmp_ge 21 rfl rfl (fun c2 => ?_) (fun c2 => ?_)
    · skip
      rw [i_le] at c2
      refine g_iconst (n := 0) rfl ?_
      refine g_ireturn (ty := .boolean) rfl rfl (by decide) ?_
      rw [hb, if_neg (by omega)]; exact ⟨rfl, rfl⟩
    · skip
      rw [i_le] at c2
      refine g_iload_n (i := 1) rfl rfl ?_
      refine g_iconst (n := 5) rfl ?_
      refine g_icmp_ge 21 rfl rfl (fun c3 => ?_) (fun c3 => ?_)
      · skip
        rw [i_le, e5] at c3
        refine g_iconst (n := 0) rfl ?_
        refine g_ireturn (ty := .boolean) rfl rfl (by decide) ?_
        rw [hb, if_neg (by omega)]; exact ⟨rfl, rfl⟩
      · skip
        rw [i_le, e5] at c3
        refine g_iconst (n := 1) rfl ?_
        refine g_goto 22 rfl rfl ?_
        refine g_ireturn (ty := .boolean) rfl rfl (by decide) ?_
        rw [hb, if_pos (by omega)]; exact ⟨rfl, rfl⟩
theorem s_setPlace {d : Nat} {h : sHp} {p K : Nat} {c : CF} {wh v : Int32} (F : FC h p c) (hK : K ≤ 3) (hw : wh.toInt = K) : sDo (d + 1) 35 [.ref p, .int wh, .int v] h (fun r h' => r = none ∧ h' = h.set p (fO p (upd c.1 (7 + K) v) c.2.1)) := by
  have a0 := F.1
  have hF : sFk 35 1 = some (.tableswitch 51 0 2 #[27, 35, 43]) := rfl
  refine sDo_of (d := d) (nL := 3) (L := [some (.ref p), some (.int wh), some (.int v)]) rfl rfl ?_
  refine g_iload_n (i := 1) rfl rfl ?_
  match K, hK, hw with
  | 0, _, hw =>
    refine go_jmp (pc1 := 28) (st1 := []) hF rfl ?_ ?_
    · show (if wh.toInt < 0 ∨ 2 < wh.toInt then _ else (match #[(27 : Int), 35, 43][(wh.toInt - 0).toNat]? with
        | some off => (sTgt 1 off).map (fun t => (t, ([] : List Value)))
        | none => none)) = _
      rw [if_neg (by omega), show (wh.toInt - 0).toNat = 0 by omega]; rfl
    · skip
      refine g_aload_n (i := 0) rfl rfl ?_
      refine g_iload_n (i := 2) rfl rfl ?_
      refine g_putfield (h1 := h.set p (fO p (upd c.1 (7 + 0) v) c.2.1)) rfl a0 (by decide) (Nat.le_of_ble_eq_true rfl) rfl rfl ?_
      refine g_goto 57 rfl rfl ?_
      refine g_return rfl rfl ?_
      exact ⟨rfl, rfl⟩
  | 1, _, hw =>
    refine go_jmp (pc1 := 36) (st1 := []) hF rfl ?_ ?_
    · show (if wh.toInt < 0 ∨ 2 < wh.toInt then _ else (match #[(27 : Int), 35, 43][(wh.toInt - 0).toNat]? with
        | some off => (sTgt 1 off).map (fun t => (t, ([] : List Value)))
        | none => none)) = _
      rw [if_neg (by omega), show (wh.toInt - 0).toNat = 1 by omega]; rfl
    · skip
      refine g_aload_n (i := 0) rfl rfl ?_
      refine g_iload_n (i := 2) rfl rfl ?_
      refine g_putfield (h1 := h.set p (fO p (upd c.1 (7 + 1) v) c.2.1)) rfl a0 (by decide) (Nat.le_of_ble_eq_true rfl) rfl rfl ?_
      refine g_goto 57 rfl rfl ?_
      refine g_return rfl rfl ?_
      exact ⟨rfl, rfl⟩
  | 2, _, hw =>
    refine go_jmp (pc1 := 44) (st1 := []) hF rfl ?_ ?_
    · show (if wh.toInt < 0 ∨ 2 < wh.toInt then _ else (match #[(27 : Int), 35, 43][(wh.toInt - 0).toNat]? with
        | some off => (sTgt 1 off).map (fun t => (t, ([] : List Value)))
        | none => none)) = _
      rw [if_neg (by omega), show (wh.toInt - 0).toNat = 2 by omega]; rfl
    · skip
      refine g_aload_n (i := 0) rfl rfl ?_
      refine g_iload_n (i := 2) rfl rfl ?_
      refine g_putfield (h1 := h.set p (fO p (upd c.1 (7 + 2) v) c.2.1)) rfl a0 (by decide) (Nat.le_of_ble_eq_true rfl) rfl rfl ?_
      refine g_goto 57 rfl rfl ?_
      refine g_return rfl rfl ?_
      exact ⟨rfl, rfl⟩
  | 3, _, hw =>
    refine go_jmp (pc1 := 52) (st1 := []) hF rfl ?_ ?_
    · show (if wh.toInt < 0 ∨ 2 < wh.toInt then (sTgt 1 51).map (fun t => (t, ([] : List Value))) else _) = _
      rw [if_pos (by omega)]; rfl
    · skip
      refine g_aload_n (i := 0) rfl rfl ?_
      refine g_iload_n (i := 2) rfl rfl ?_
      refine g_putfield (h1 := h.set p (fO p (upd c.1 (7 + 3) v) c.2.1)) rfl a0 (by decide) (Nat.le_of_ble_eq_true rfl) rfl rfl ?_
      refine g_return rfl rfl ?_
      exact ⟨rfl, rfl⟩
  | k + 4, hK, _ => exact absurd hK (by omega)
def tenF (w : Nat → Int32) (k : Nat) : Nat → Int32 := fun i => if i < k then (Int8.ofInt 10).toInt32 else w i
theorem tenF_0 (w : Nat → Int32) : tenF w 0 = w := funext fun i => if_neg (Nat.not_lt_zero i)
theorem tenF_s (w : Nat → Int32) (k : Nat) : upd (tenF w k) k (Int8.ofInt 10).toInt32 = tenF w (k + 1) := funext fun i => by
  unfold upd tenF
  by_cases h : i = k
  · rw [if_pos h, if_pos (show i < k + 1 by omega)]
  · rw [if_neg h]
    by_cases h2 : i < k
    · rw [if_pos h2, if_pos (show i < k + 1 by omega)]
    · rw [if_neg h2, if_neg (show ¬ i < k + 1 by omega)]
theorem s_addHeir_go {d : Nat} {h : sHp} {p H : Nat} {I : Nat → Int32} {G : Nat → Int64} {f : Nat → Option Nat} {w : Nat → Int32} {share : Int32} {Q : Option Value → sHp → Prop} (a0 : h[p]? = some (fO p I G)) (a3 : h[p + 3]? = some (.inl (5, 5, .inr (.inr (.inr (.inr f)))))) (a4 : ∀ k, k < 5 → f k = some (p + 4 + k)) (a5 : h[p + 4 + H]? = some (.inl (0, 6, .inl w))) (hH : H < 5) (hI : I 11 = Int32.ofNat H) (hQ : ∀ x : Int32, sGo none 36 d 64 [some (.ref p), some (.int share), some (.int x)] [] (h.set (p + 4 + H) (.inl (0, 6, .inl (tenF w 6)))) Q) : ∀ (N : Nat) (k : Nat), k ≤ 6 → 6 - k < N → sGo none 36 d 39 [some (.ref p), some (.int share), some (.int (Int32.ofNat k))] [] (h.set (p + 4 + H) (.inl (0, 6, .inl (tenF w k)))) Q := by
  have eH := ofN_toInt (n := H) (by omega)
  have e6 : (Int8.ofInt 6).toInt32.toInt = 6 := rfl
  have fH : va_rf (f (I 11).toNatClampNeg) = .ref (p + 4 + H) := by rw [hI, i_nat eH, a4 H hH]; rfl
  have e11 : (I 11).toInt = H := by rw [hI, eH]
  intro N
  induction N with
  | zero => intro k _ hl; omega
  | succ N ih =>
    intro k hk hl
    have ek := ofN_toInt (n := k) (by omega)
    have a0' : (h.set (p + 4 + H) (.inl (0, 6, .inl (tenF w k))))[p]? = some (fO p I G) := by rw [s_set_ne (by omega)]; exact a0
    have a3' : (h.set (p + 4 + H) (.inl (0, 6, .inl (tenF w k))))[p + 3]? = some (.inl (5, 5, .inr (.inr (.inr (.inr f))))) := by rw [s_set_ne (by omega)]; exact a3
    refine g_iload_n (i := 2) rfl rfl ?_
    refine g_bipush (n := 6) rfl ?_
    refine g_icmp_ge 64 rfl rfl (fun hc => ?_) (fun hc => ?_)
    · skip
      rw [i_le, e6, ek] at hc
      have hk6 : k = 6 := by omega
      rw [hk6]
      exact hQ _
    · skip
      rw [i_le, e6, ek] at hc
      refine g_aload_n (i := 0) rfl rfl ?_
      refine g_getfield (v := .ref (p + 3)) rfl a0' (by decide) rfl ?_
      refine g_aload_n (i := 0) rfl rfl ?_
      refine g_getfield (v := .int (I 11)) rfl a0' (by decide) rfl ?_
      refine g_aaload rfl a3' (by decide) (i_in (by omega) (by omega)) ?_
      rw [fH]
      refine g_iload_n (i := 2) rfl rfl ?_
      refine g_bipush (n := 10) rfl ?_
      refine g_iastore (h1 := h.set (p + 4 + H) (.inl (0, 6, .inl (tenF w (k + 1))))) rfl (s_set_eq a5) (i_in (by omega) (by omega)) (by rw [i_nat ek, List.set_set]; exact congrArg (fun e => h.set (p + 4 + H) (.inl (0, 6, .inl e))) (tenF_s w k)) ?_
      refine g_iinc (i := 2) (L1 := [some (.ref p), some (.int share), some (.int ((Int32.ofNat k) + Int32.ofInt 1))]) rfl rfl rfl ?_
      rw [ofN_add (by omega)]
      refine g_goto 39 rfl rfl ?_
      exact ih (k + 1) (by omega) (by omega)
/-- one more heir -/
def cfHeir (H : Nat) (share : Int32) (c : CF) : CF := (upd c.1 11 (Int32.ofNat (H + 1)), c.2.1, c.2.2.1, upd c.2.2.2.1 H share, (fun k => if k = H then tenF (c.2.2.2.2.1 H) 6 else c.2.2.2.2.1 k), upd c.2.2.2.2.2.1 H 0, c.2.2.2.2.2.2)
theorem s_addHeir {d : Nat} {h : sHp} {p H : Nat} {c : CF} {share : Int32} (F : FC h p c) (hI : c.1 11 = Int32.ofNat H) (hH : H < 5) : sDo (d + 1) 36 [.ref p, .int share] h (fun r h' => r = some (.int (Int32.ofNat H)) ∧ FC h' p (cfHeir H share c) ∧ fE p h h') := by
  obtain ⟨I, G, so, sh, wo, fo, ow⟩ := c
  have hI : I 11 = Int32.ofNat H := hI
  have Fc := F
  obtain ⟨a0, a1, a2, ⟨f, a3, a4⟩, a5, a6, a7⟩ := F
  have eH := ofN_toInt (n := H) (by omega)
  have e11 : (I 11).toInt = H := by rw [hI, eH]
  have e0 : (0 : Int32).toInt = 0 := rfl
  have e5 : (Int32.ofInt 5).toInt = 5 := rfl
  have a0 : h[p]? = some (fO p I G) := a0
  refine sDo_of (d := d) (nL := 3) (L := [some (.ref p), some (.int share), none]) rfl rfl ?_
  refine g_aload_n (i := 0) rfl rfl ?_
  refine g_getfield (v := .int (I 11)) rfl a0 (by decide) rfl ?_
  refine g_if_lt 15 rfl rfl (fun hc => absurd hc (by rw [i_lt, e0]; omega)) (fun _ => ?_)
  refine g_aload_n (i := 0) rfl rfl ?_
  refine g_getfield (v := .int (I 11)) rfl a0 (by decide) rfl ?_
  refine g_iconst (n := 5) rfl ?_
  refine g_icmp_lt 17 rfl rfl (fun _ => ?_) (fun hc => absurd hc (by rw [i_lt, e5]; omega))
  refine g_aload_n (i := 0) rfl rfl ?_
  refine g_getfield (v := .ref (p + 2)) rfl a0 (by decide) rfl ?_
  refine g_aload_n (i := 0) rfl rfl ?_
  refine g_getfield (v := .int (I 11)) rfl a0 (by decide) rfl ?_
  refine g_iload_n (i := 1) rfl rfl ?_
  refine g_iastore (h1 := h.set (p + 2) (.inl (0, 5, .inl (upd sh H share)))) rfl a2 (i_in (by omega) (by omega)) (by rw [i_nat e11]) ?_
  have F1 := FC_2 (sh := upd sh H share) Fc
  have b0 : (h.set (p + 2) (.inl (0, 5, .inl (upd sh H share))))[p]? = some (fO p I G) := F1.1
  refine g_aload_n (i := 0) rfl rfl ?_
  refine g_getfield (v := .ref (p + 9)) rfl b0 (by decide) rfl ?_
  refine g_aload_n (i := 0) rfl rfl ?_
  refine g_getfield (v := .int (I 11)) rfl b0 (by decide) rfl ?_
  refine g_iconst (n := 0) rfl ?_
  refine g_bastore (h1 := ((h.set (p + 2) (.inl (0, 5, .inl (upd sh H share)))).set (p + 9) (.inl (2, 5, .inl (upd fo H 0))))) rfl F1.2.2.2.2.2.1 (Or.inl rfl) (i_in (by omega) (by omega)) (by rw [i_nat e11]; rfl) ?_
  have F2 := FC_9 (fo := upd fo H 0) F1
  have c0 : ((h.set (p + 2) (.inl (0, 5, .inl (upd sh H share)))).set (p + 9) (.inl (2, 5, .inl (upd fo H 0))))[p]? = some (fO p I G) := F2.1
  have F2c := F2
  obtain ⟨-, -, -, ⟨f', b3, b4⟩, b5, -⟩ := F2c
  refine g_iconst (n := 0) rfl ?_
  refine g_istore_n (i := 2) (L1 := [some (.ref p), some (.int share), some (.int (Int32.ofInt 0))]) rfl (Nat.le_of_ble_eq_true rfl) rfl ?_
  have key := s_addHeir_go (d := d) (share := share) (Q := fun r h' => r = some (.int (Int32.ofNat H)) ∧ FC h' p (cfHeir H share (I, G, so, sh, wo, fo, ow)) ∧ fE p h h') c0 b3 b4 (b5 H hH) hH hI (fun x => ?_) 7 0 (by decide) (by decide)
  · rw [tenF_0, s_set_self (b5 H hH)] at key
    exact key
  · skip
    have F3 := FC_4 (w := tenF (wo H) 6) F2 hH
    have d0 : (((h.set (p + 2) (.inl (0, 5, .inl (upd sh H share)))).set (p + 9) (.inl (2, 5, .inl (upd fo H 0)))).set (p + 4 + H) (.inl (0, 6, .inl (tenF (wo H) 6))))[p]? = some (fO p I G) := F3.1
    refine g_aload_n (i := 0) rfl rfl ?_
    refine g_dup rfl rfl ?_
    refine g_getfield (v := .int (I 11)) rfl d0 (by decide) rfl ?_
    refine g_iconst (n := 1) rfl ?_
    refine g_iadd rfl ?_
    rw [hI, ofN_add (by omega)]
    refine g_putfield (h1 := (((h.set (p + 2) (.inl (0, 5, .inl (upd sh H share)))).set (p + 9) (.inl (2, 5, .inl (upd fo H 0)))).set (p + 4 + H) (.inl (0, 6, .inl (tenF (wo H) 6)))).set p (fO p (upd I 11 (Int32.ofNat (H + 1))) G)) rfl d0 (by decide) (Nat.le_of_ble_eq_true rfl) rfl rfl ?_
    have F4 := FC_0 (I := upd I 11 (Int32.ofNat (H + 1))) (G := G) F3
    have g0 := F4.1
    refine g_aload_n (i := 0) rfl rfl ?_
    refine g_getfield (v := .int ((upd I 11 (Int32.ofNat (H + 1))) 11)) rfl g0 (by decide) rfl ?_
    refine g_iconst (n := 1) rfl ?_
    have eq : (upd I 11 (Int32.ofNat (H + 1)) 11) - Int32.ofInt 1 = Int32.ofNat H := by
      show Int32.ofNat (H + 1) - Int32.ofInt 1 = Int32.ofNat H
      rw [← ofN_add (by omega), Int32.add_sub_cancel]
    refine g_isub rfl ?_
    rw [eq]
    refine g_ireturn (ty := .int) rfl rfl rfl ?_
    exact ⟨rfl, F4, fE_set (fE_set (fE_set (fE_set fE_rfl (by omega) (by omega)) (by omega) (by omega)) (by omega) (by omega)) (by omega) (by omega)⟩
end
section
/-! ===== the class's field: sets, size ===== -/
def lowS (n : Int32) : Int64 := if n.toInt ≤ 0 then 0 else if 64 ≤ n.toInt then Int64.ofNat 18446744073709551615 else (Int64.ofNat 1 <<< (n.toInt64 &&& 63)) - Int64.ofNat 1
theorem s_lowest {d : Nat} {h : sHp} {n : Int32} : sDo (d + 1) 26 [.int n] h (fun r h' => h' = h ∧ r = some (.long (lowS n))) := by
  have e0 : (0 : Int32).toInt = 0 := rfl
  have e64 : (Int8.ofInt 64).toInt32.toInt = 64 := rfl
  unfold lowS
  refine sDo_of (d := d) (nL := 1) (L := [some (.int n)]) rfl rfl ?_
  refine g_iload_n (i := 0) rfl rfl ?_
  refine g_if_gt 6 rfl rfl (fun c1 => ?_) (fun c1 => ?_)
  · skip
    rw [i_lt, e0] at c1
    rw [if_neg (by omega)]
    refine g_iload_n (i := 0) rfl rfl ?_
    refine g_bipush (n := 64) rfl ?_
    refine g_icmp_lt 18 rfl rfl (fun c2 => ?_) (fun c2 => ?_)
    · skip
      rw [i_lt, e64] at c2
      rw [if_neg (by omega)]
      refine g_lconst (n := 1) rfl ?_
      refine g_iload_n (i := 0) rfl rfl ?_
      refine g_lshl rfl ?_
      refine g_lconst (n := 1) rfl ?_
      refine g_lsub rfl ?_
      refine g_lreturn rfl rfl ?_
      exact ⟨rfl, rfl⟩
    · skip
      rw [i_lt, e64] at c2
      rw [if_pos (by omega)]
      refine g_ldc2_w (j := 18446744073709551615) rfl ?_
      refine g_goto 23 rfl rfl ?_
      refine g_lreturn rfl rfl ?_
      exact ⟨rfl, rfl⟩
  · skip
    rw [i_lt, e0] at c1
    rw [if_pos (by omega)]
    refine g_lconst (n := 0) rfl ?_
    refine g_lreturn rfl rfl ?_
    exact ⟨rfl, rfl⟩
theorem s_below {d : Nat} {h : sHp} {p : Nat} {c : CF} {n : Int32} (F : FC h p c) : sDo (d + 2) 27 [.ref p, .int n] h (fun r h' => h' = h ∧ r = some (.long (lowS n &&& c.2.1 2))) := by
  have a0 := F.1
  refine sDo_of (d := d + 1) (nL := 2) (L := [some (.ref p), some (.int n)]) rfl rfl ?_
  refine g_iload_n (i := 1) rfl rfl ?_
  refine g_static1 (Qc := fun r h' => h' = h ∧ r = some (.long (lowS n))) rfl (by decide) rfl (Nat.le_of_ble_eq_true rfl) (s_lowest (d := d)) (fun r h9 hq9 => ?_)
  obtain ⟨rfl, rfl⟩ := hq9
  refine g_aload_n (i := 0) rfl rfl ?_
  refine g_getfield (v := .long (c.2.1 2)) rfl a0 (by decide) rfl ?_
  refine g_land rfl ?_
  refine g_lreturn rfl rfl ?_
  exact ⟨rfl, rfl⟩
/-- a set goes over to one of the sets -/
def gvF (el : Nat → Int64) (set : Int64) (k : Nat) : Nat → Int64 := fun i => if i < k then el i &&& (set ^^^ Int64.ofNat 18446744073709551615) else el i
theorem gvF_0 (el : Nat → Int64) (set : Int64) : gvF el set 0 = el := funext fun i => if_neg (Nat.not_lt_zero i)
theorem gvF_s (el : Nat → Int64) (set : Int64) (k : Nat) : vp_updL (gvF el set k) k (gvF el set k k &&& (set ^^^ Int64.ofNat 18446744073709551615)) = gvF el set (k + 1) := funext fun i => by
  unfold vp_updL gvF
  by_cases h : i = k
  · rw [if_pos h, if_neg (Nat.lt_irrefl k), if_pos (show i < k + 1 by omega), h]
  · rw [if_neg h]
    by_cases h2 : i < k
    · rw [if_pos h2, if_pos (show i < k + 1 by omega)]
    · rw [if_neg h2, if_neg (show ¬ i < k + 1 by omega)]
def giveS (el : Nat → Int64) (len : Nat) (set : Int64) (s : Nat) : Nat → Int64 := vp_updL (gvF el set len) s (gvF el set len s ||| set)
theorem s_give_go {d : Nat} {h : sHp} {q len : Nat} {el : Nat → Int64} {set : Int64} {slot : Int32} {S : Nat} (hq : h[q]? = some (.inl (1, len, .inr (.inl el)))) (hl : len ≤ 100) (hs : slot.toInt = S) (hS : S < len) : ∀ (N k : Nat), k ≤ len → len - k < N → sGo none 19 d 14 [some (.ref q), some (.long set), none, some (.int slot), some (.int (Int32.ofNat k))] [] (h.set q (.inl (1, len, .inr (.inl (gvF el set k))))) (fun r h' => r = none ∧ h' = h.set q (.inl (1, len, .inr (.inl (giveS el len set S))))) := by
  have el' := ofN_toInt (n := len) (by omega)
  intro N
  induction N with
  | zero => intro k _ hl; omega
  | succ N ih =>
    intro k hk hl'
    have ek := ofN_toInt (n := k) (by omega)
    have hq' : (h.set q (.inl (1, len, .inr (.inl (gvF el set k)))))[q]? = some (.inl (1, len, .inr (.inl (gvF el set k)))) := s_set_eq hq
    refine g_iload (i := 4) rfl rfl ?_
    refine g_aload_n (i := 0) rfl rfl ?_
    refine g_alen rfl hq' (by decide) ?_
    refine g_icmp_ge 39 rfl rfl (fun hc => ?_) (fun hc => ?_)
    · skip
      rw [i_le, el', ek] at hc
      have hkl : k = len := by omega
      subst hkl
      refine g_aload_n (i := 0) rfl rfl ?_
      refine g_iload_n (i := 3) rfl rfl ?_
      refine g_dup2 rfl rfl rfl ?_
      refine g_laload (n := k) (f := gvF el set k) rfl hq' (i_in (by omega) (by omega)) ?_
      rw [i_nat hs]
      refine g_lload_n (i := 1) rfl rfl ?_
      refine g_lor rfl ?_
      refine g_lastore (h1 := h.set q (.inl (1, k, .inr (.inl (giveS el k set S))))) rfl hq' (i_in (by omega) (by omega)) (by rw [i_nat hs, List.set_set]; rfl) ?_
      refine g_return rfl rfl ?_
      exact ⟨rfl, rfl⟩
    · skip
      rw [i_le, el', ek] at hc
      refine g_aload_n (i := 0) rfl rfl ?_
      refine g_iload (i := 4) rfl rfl ?_
      refine g_dup2 rfl rfl rfl ?_
      refine g_laload (n := len) (f := gvF el set k) rfl hq' (i_in (by omega) (by omega)) ?_
      rw [i_nat ek]
      refine g_lload_n (i := 1) rfl rfl ?_
      refine g_ldc2_w (j := 18446744073709551615) rfl ?_
      refine g_lxor rfl ?_
      refine g_land rfl ?_
      refine g_lastore (h1 := h.set q (.inl (1, len, .inr (.inl (gvF el set (k + 1)))))) rfl hq' (i_in (by omega) (by omega)) (by rw [i_nat ek, List.set_set]; exact congrArg (fun e => h.set q (.inl (1, len, .inr (.inl e)))) (gvF_s el set k)) ?_
      refine g_iinc (i := 4) (L1 := [some (.ref q), some (.long set), none, some (.int slot), some (.int ((Int32.ofNat k) + Int32.ofInt 1))]) rfl rfl rfl ?_
      rw [ofN_add (by omega)]
      refine g_goto 14 rfl rfl ?_
      exact ih (k + 1) (by omega) (by omega)
theorem s_give {d : Nat} {h : sHp} {q len : Nat} {el : Nat → Int64} {set : Int64} {slot : Int32} {S : Nat} (hq : h[q]? = some (.inl (1, len, .inr (.inl el)))) (hl : len ≤ 100) (hs : slot.toInt = S) (hS : S < len) : sDo (d + 1) 19 [.ref q, .long set, .int slot] h (fun r h' => r = none ∧ h' = h.set q (.inl (1, len, .inr (.inl (giveS el len set S))))) := by
  have el' := ofN_toInt (n := len) (by omega)
  have e0 : (0 : Int32).toInt = 0 := rfl
  refine sDo_of (d := d) (nL := 5) (L := [some (.ref q), some (.long set), none, some (.int slot), none]) rfl rfl ?_
  refine g_iload_n (i := 3) rfl rfl ?_
  refine g_if_lt 10 rfl rfl (fun hc => absurd hc (by rw [i_lt, e0]; omega)) (fun _ => ?_)
  refine g_iload_n (i := 3) rfl rfl ?_
  refine g_aload_n (i := 0) rfl rfl ?_
  refine g_alen rfl hq (by decide) ?_
  refine g_icmp_lt 11 rfl rfl (fun _ => ?_) (fun hc => absurd hc (by rw [i_lt, el']; omega))
  refine g_iconst (n := 0) rfl ?_
  refine g_istore (i := 4) (L1 := [some (.ref q), some (.long set), none, some (.int slot), some (.int (Int32.ofInt 0))]) rfl (Nat.le_of_ble_eq_true rfl) rfl ?_
  have h0 := s_give_go (d := d) (set := set) hq hl hs hS (len + 1) 0 (Nat.zero_le _) (by omega)
  rw [gvF_0, s_set_self hq] at h0
  exact h0
theorem s_laySoil {d : Nat} {h : sHp} {p : Nat} {c : CF} {set : Int64} {v : Int32} {V : Nat} (F : FC h p c) (hv : v.toInt = V) (hV : V < 6) : sDo (d + 2) 33 [.ref p, .long set, .int v] h (fun r h' => r = none ∧ h' = h.set (p + 1) (.inl (1, 6, .inr (.inl (giveS c.2.2.1 6 set V))))) := by
  have a0 := F.1
  refine sDo_of (d := d + 1) (nL := 4) (L := [some (.ref p), some (.long set), none, some (.int v)]) rfl rfl ?_
  refine g_aload_n (i := 0) rfl rfl ?_
  refine g_getfield (v := .ref (p + 1)) rfl a0 (by decide) rfl ?_
  refine g_lload_n (i := 1) rfl rfl ?_
  refine g_iload_n (i := 3) rfl rfl ?_
  refine g_static3 (Qc := fun r h' => r = none ∧ h' = h.set (p + 1) (.inl (1, 6, .inr (.inl (giveS c.2.2.1 6 set V))))) rfl (by decide) rfl (Nat.le_of_ble_eq_true rfl) (s_give (d := d) F.2.1 (by decide) hv hV) (fun r h9 hq9 => ?_)
  obtain ⟨rfl, rfl⟩ := hq9
  refine g_return rfl rfl ?_
  exact ⟨rfl, rfl⟩
def zrF (el : Nat → Int64) (k : Nat) : Nat → Int64 := fun i => if i < k then Int64.ofNat 0 else el i
theorem zrF_0 (el : Nat → Int64) : zrF el 0 = el := funext fun i => if_neg (Nat.not_lt_zero i)
theorem zrF_s (el : Nat → Int64) (k : Nat) : vp_updL (zrF el k) k (Int64.ofNat 0) = zrF el (k + 1) := funext fun i => by
  unfold vp_updL zrF
  by_cases h : i = k
  · rw [if_pos h, if_pos (show i < k + 1 by omega)]
  · rw [if_neg h]
    by_cases h2 : i < k
    · rw [if_pos h2, if_pos (show i < k + 1 by omega)]
    · rw [if_neg h2, if_neg (show ¬ i < k + 1 by omega)]
theorem s_empty_go {d : Nat} {h : sHp} {q len : Nat} {el : Nat → Int64} (hq : h[q]? = some (.inl (1, len, .inr (.inl el)))) (hl : len ≤ 100) : ∀ (N k : Nat), k ≤ len → len - k < N → sGo none 20 d 2 [some (.ref q), some (.int (Int32.ofNat k))] [] (h.set q (.inl (1, len, .inr (.inl (zrF el k))))) (fun r h' => r = none ∧ h' = h.set q (.inl (1, len, .inr (.inl (zrF el len))))) := by
  have el' := ofN_toInt (n := len) (by omega)
  intro N
  induction N with
  | zero => intro k _ hl; omega
  | succ N ih =>
    intro k hk hl'
    have ek := ofN_toInt (n := k) (by omega)
    have hq' : (h.set q (.inl (1, len, .inr (.inl (zrF el k)))))[q]? = some (.inl (1, len, .inr (.inl (zrF el k)))) := s_set_eq hq
    refine g_iload_n (i := 1) rfl rfl ?_
    refine g_aload_n (i := 0) rfl rfl ?_
    refine g_alen rfl hq' (by decide) ?_
    refine g_icmp_ge 18 rfl rfl (fun hc => ?_) (fun hc => ?_)
    · skip
      rw [i_le, el', ek] at hc
      have hkl : k = len := by omega
      subst hkl
      refine g_return rfl rfl ?_
      exact ⟨rfl, rfl⟩
    · skip
      rw [i_le, el', ek] at hc
      refine g_aload_n (i := 0) rfl rfl ?_
      refine g_iload_n (i := 1) rfl rfl ?_
      refine g_lconst (n := 0) rfl ?_
      refine g_lastore (h1 := h.set q (.inl (1, len, .inr (.inl (zrF el (k + 1)))))) rfl hq' (i_in (by omega) (by omega)) (by rw [i_nat ek, List.set_set]; exact congrArg (fun e => h.set q (.inl (1, len, .inr (.inl e)))) (zrF_s el k)) ?_
      refine g_iinc (i := 1) (L1 := [some (.ref q), some (.int ((Int32.ofNat k) + Int32.ofInt 1))]) rfl rfl rfl ?_
      rw [ofN_add (by omega)]
      refine g_goto 2 rfl rfl ?_
      exact ih (k + 1) (by omega) (by omega)
theorem s_empty {d : Nat} {h : sHp} {q len : Nat} {el : Nat → Int64} (hq : h[q]? = some (.inl (1, len, .inr (.inl el)))) (hl : len ≤ 100) : sDo (d + 1) 20 [.ref q] h (fun r h' => r = none ∧ h' = h.set q (.inl (1, len, .inr (.inl (zrF el len))))) := by
  refine sDo_of (d := d) (nL := 2) (L := [some (.ref q), none]) rfl rfl ?_
  refine g_iconst (n := 0) rfl ?_
  refine g_istore_n (i := 1) (L1 := [some (.ref q), some (.int (Int32.ofInt 0))]) rfl (Nat.le_of_ble_eq_true rfl) rfl ?_
  have h0 := s_empty_go (d := d) hq hl (len + 1) 0 (Nat.zero_le _) (by omega)
  rw [zrF_0, s_set_self hq] at h0
  exact h0
def fcS (w : Int32) : Nat → Int64
  | 0 => Int64.ofNat 0
  | r + 1 => fcS w r ||| (Int64.ofNat 1 <<< ((Int32.ofNat r * w).toInt64 &&& 63))
def szI (w hh : Int32) (I : Nat → Int32) : Nat → Int32 := upd (upd (upd (upd I 0 w) 1 hh) 8 (Int32.ofInt (-1))) 9 (Int32.ofInt (-1))
def szG (w hh : Int32) (G : Nat → Int64) : Nat → Int64 := vp_updL (vp_updL (vp_updL (vp_updL (vp_updL G 2 (lowS (w * hh))) 3 (fcS w hh.toInt.toNat)) 4 (fcS w hh.toInt.toNat <<< ((w - Int32.ofInt 1).toInt64 &&& 63))) 5 (lowS w)) 6 (lowS w <<< ((w * (hh - Int32.ofInt 1)).toInt64 &&& 63))
def cfSize (w hh : Int32) (c : CF) : CF := (szI w hh c.1, szG w hh c.2.1, vp_updL (zrF c.2.2.1 6) 0 (lowS (w * hh)), c.2.2.2.1, c.2.2.2.2.1, c.2.2.2.2.2.1, vp_updL (zrF c.2.2.2.2.2.2 7) 6 (lowS (w * hh)))
theorem s_resize_go {d : Nat} {h : sHp} {p : Nat} {I : Nat → Int32} {G : Nat → Int64} {w hh : Int32} {Q : Option Value → sHp → Prop} (a0 : ∃ x, h[p]? = some x) (w0 : I 0 = w) (w1 : I 1 = hh) (h0 : 0 ≤ hh.toInt) (h8 : hh.toInt ≤ 8) (hQ : ∀ x : Int32, sGo none 17 d 64 [some (.ref p), some (.int w), some (.int hh), some (.int x)] [] (h.set p (fO p I (vp_updL G 3 (fcS w hh.toInt.toNat)))) Q) : ∀ (N k : Nat), k ≤ hh.toInt.toNat → hh.toInt.toNat - k < N → sGo none 17 d 33 [some (.ref p), some (.int w), some (.int hh), some (.int (Int32.ofNat k))] [] (h.set p (fO p I (vp_updL G 3 (fcS w k)))) Q := by
  obtain ⟨x0, hx0⟩ := a0
  intro N
  induction N with
  | zero => intro k _ hl; omega
  | succ N ih =>
    intro k hk hl'
    have ek := ofN_toInt (n := k) (by omega)
    have a0' : (h.set p (fO p I (vp_updL G 3 (fcS w k))))[p]? = some (fO p I (vp_updL G 3 (fcS w k))) := s_set_eq hx0
    refine g_iload_n (i := 3) rfl rfl ?_
    refine g_aload_n (i := 0) rfl rfl ?_
    refine g_getfield (v := .int (I 1)) rfl a0' (by decide) rfl ?_
    refine g_icmp_ge 64 rfl rfl (fun hc => ?_) (fun hc => ?_)
    · skip
      rw [w1, i_le, ek] at hc
      have hkl : k = hh.toInt.toNat := by omega
      rw [hkl]
      exact hQ _
    · skip
      rw [w1, i_le, ek] at hc
      refine g_aload_n (i := 0) rfl rfl ?_
      refine g_dup rfl rfl ?_
      refine g_getfield (v := .long ((vp_updL G 3 (fcS w k)) 3)) rfl a0' (by decide) rfl ?_
      refine g_lconst (n := 1) rfl ?_
      refine g_iload_n (i := 3) rfl rfl ?_
      refine g_aload_n (i := 0) rfl rfl ?_
      refine g_getfield (v := .int (I 0)) rfl a0' (by decide) rfl ?_
      refine g_imul rfl ?_
      refine g_lshl rfl ?_
      refine g_lor rfl ?_
      rw [w0]
      refine g_putfield (h1 := h.set p (fO p I (vp_updL G 3 (fcS w (k + 1))))) rfl a0' (by decide) (Nat.le_of_ble_eq_true rfl) rfl (List.set_set ..) ?_
      refine g_iinc (i := 3) (L1 := [some (.ref p), some (.int w), some (.int hh), some (.int ((Int32.ofNat k) + Int32.ofInt 1))]) rfl rfl rfl ?_
      rw [ofN_add (by omega)]
      refine g_goto 33 rfl rfl ?_
      exact ih (k + 1) (by omega) (by omega)
theorem s_resize {d : Nat} {h : sHp} {p : Nat} {c : CF} {w hh : Int32} (F : FC h p c) (h0 : 0 ≤ hh.toInt) (h8 : hh.toInt ≤ 8) : sDo (d + 2) 17 [.ref p, .int w, .int hh] h (fun r h' => r = none ∧ FC h' p (cfSize w hh c) ∧ fE p h h') := by
  obtain ⟨I, G, so, sh, wo, fo, ow⟩ := c
  have a0 : h[p]? = some (fO p I G) := F.1
  have sS : ∀ I G I' G', (h.set p (fO p I G)).set p (fO p I' G') = h.set p (fO p I' G') := fun _ _ _ _ => List.set_set ..
  have at_ : ∀ I G, (h.set p (fO p I G))[p]? = some (fO p I G) := fun _ _ => s_set_eq a0
  refine sDo_of (d := d + 1) (nL := 4) (L := [some (.ref p), some (.int w), some (.int hh), none]) rfl rfl ?_
  refine g_aload_n (i := 0) rfl rfl ?_
  refine g_iload_n (i := 1) rfl rfl ?_
  refine g_putfield (h1 := h.set p (fO p (upd I 0 w) G)) rfl a0 (by decide) (Nat.le_of_ble_eq_true rfl) rfl rfl ?_
  refine g_aload_n (i := 0) rfl rfl ?_
  refine g_iload_n (i := 2) rfl rfl ?_
  refine g_putfield (h1 := h.set p (fO p (upd (upd I 0 w) 1 hh) G)) rfl (at_ _ _) (by decide) (Nat.le_of_ble_eq_true rfl) rfl (List.set_set ..) ?_
  refine g_aload_n (i := 0) rfl rfl ?_
  refine g_aload_n (i := 0) rfl rfl ?_
  refine g_getfield (v := .int ((upd (upd I 0 w) 1 hh) 0)) rfl (at_ _ _) (by decide) rfl ?_
  refine g_aload_n (i := 0) rfl rfl ?_
  refine g_getfield (v := .int ((upd (upd I 0 w) 1 hh) 1)) rfl (at_ _ _) (by decide) rfl ?_
  refine g_imul rfl ?_
  refine g_static1 (Qc := fun r h' => h' = h.set p (fO p (upd (upd I 0 w) 1 hh) G) ∧ r = some (.long (lowS (w * hh)))) rfl (by decide) rfl (Nat.le_of_ble_eq_true rfl) (sDo_up (d := 1) (by omega) (s_lowest (d := 0))) (fun r h9 hq9 => ?_)
  obtain ⟨rfl, rfl⟩ := hq9
  refine g_putfield (h1 := h.set p (fO p (upd (upd I 0 w) 1 hh) (vp_updL G 2 (lowS (w * hh))))) rfl (at_ _ _) (by decide) (Nat.le_of_ble_eq_true rfl) rfl (List.set_set ..) ?_
  refine g_aload_n (i := 0) rfl rfl ?_
  refine g_lconst (n := 0) rfl ?_
  refine g_putfield (h1 := h.set p (fO p (upd (upd I 0 w) 1 hh) (vp_updL (vp_updL G 2 (lowS (w * hh))) 3 (Int64.ofNat 0)))) rfl (at_ _ _) (by decide) (Nat.le_of_ble_eq_true rfl) rfl (List.set_set ..) ?_
  refine g_iconst (n := 0) rfl ?_
  refine g_istore_n (i := 3) (L1 := [some (.ref p), some (.int w), some (.int hh), some (.int (Int32.ofInt 0))]) rfl (Nat.le_of_ble_eq_true rfl) rfl ?_
  have key := s_resize_go (d := d + 1) (p := p) (I := (upd (upd I 0 w) 1 hh)) (G := (vp_updL G 2 (lowS (w * hh)))) (w := w) (hh := hh) (Q := fun r h' => r = none ∧ FC h' p (cfSize w hh (I, G, so, sh, wo, fo, ow)) ∧ fE p h h') ⟨_, a0⟩ rfl rfl h0 h8 (fun x => ?_) (hh.toInt.toNat + 1) 0 (Nat.zero_le _) (by omega)
  · exact key
  · skip
    refine g_aload_n (i := 0) rfl rfl ?_
    refine g_aload_n (i := 0) rfl rfl ?_
    refine g_getfield (v := .long ((vp_updL (vp_updL G 2 (lowS (w * hh))) 3 (fcS w hh.toInt.toNat)) 3)) rfl (at_ _ _) (by decide) rfl ?_
    refine g_aload_n (i := 0) rfl rfl ?_
    refine g_getfield (v := .int ((upd (upd I 0 w) 1 hh) 0)) rfl (at_ _ _) (by decide) rfl ?_
    refine g_iconst (n := 1) rfl ?_
    refine g_isub rfl ?_
    refine g_lshl rfl ?_
    refine g_putfield (h1 := h.set p (fO p (upd (upd I 0 w) 1 hh) (vp_updL (vp_updL (vp_updL G 2 (lowS (w * hh))) 3 (fcS w hh.toInt.toNat)) 4 (fcS w hh.toInt.toNat <<< ((w - Int32.ofInt 1).toInt64 &&& 63))))) rfl (at_ _ _) (by decide) (Nat.le_of_ble_eq_true rfl) rfl (List.set_set ..) ?_
    refine g_aload_n (i := 0) rfl rfl ?_
    refine g_aload_n (i := 0) rfl rfl ?_
    refine g_getfield (v := .int ((upd (upd I 0 w) 1 hh) 0)) rfl (at_ _ _) (by decide) rfl ?_
    refine g_static1 (Qc := fun r h' => h' = h.set p (fO p (upd (upd I 0 w) 1 hh) (vp_updL (vp_updL (vp_updL G 2 (lowS (w * hh))) 3 (fcS w hh.toInt.toNat)) 4 (fcS w hh.toInt.toNat <<< ((w - Int32.ofInt 1).toInt64 &&& 63)))) ∧ r = some (.long (lowS w))) rfl (by decide) rfl (Nat.le_of_ble_eq_true rfl) (sDo_up (d := 1) (by omega) (s_lowest (d := 0))) (fun r h9 hq9 => ?_)
    obtain ⟨rfl, rfl⟩ := hq9
    refine g_putfield (h1 := h.set p (fO p (upd (upd I 0 w) 1 hh) (vp_updL (vp_updL (vp_updL (vp_updL G 2 (lowS (w * hh))) 3 (fcS w hh.toInt.toNat)) 4 (fcS w hh.toInt.toNat <<< ((w - Int32.ofInt 1).toInt64 &&& 63))) 5 (lowS w)))) rfl (at_ _ _) (by decide) (Nat.le_of_ble_eq_true rfl) rfl (List.set_set ..) ?_
    refine g_aload_n (i := 0) rfl rfl ?_
    refine g_aload_n (i := 0) rfl rfl ?_
    refine g_getfield (v := .long ((vp_updL (vp_updL (vp_updL (vp_updL G 2 (lowS (w * hh))) 3 (fcS w hh.toInt.toNat)) 4 (fcS w hh.toInt.toNat <<< ((w - Int32.ofInt 1).toInt64 &&& 63))) 5 (lowS w)) 5)) rfl (at_ _ _) (by decide) rfl ?_
    refine g_aload_n (i := 0) rfl rfl ?_
    refine g_getfield (v := .int ((upd (upd I 0 w) 1 hh) 0)) rfl (at_ _ _) (by decide) rfl ?_
    refine g_aload_n (i := 0) rfl rfl ?_
    refine g_getfield (v := .int ((upd (upd I 0 w) 1 hh) 1)) rfl (at_ _ _) (by decide) rfl ?_
    refine g_iconst (n := 1) rfl ?_
    refine g_isub rfl ?_
    refine g_imul rfl ?_
    refine g_lshl rfl ?_
    refine g_putfield (h1 := h.set p (fO p (upd (upd I 0 w) 1 hh) (vp_updL (vp_updL (vp_updL (vp_updL (vp_updL G 2 (lowS (w * hh))) 3 (fcS w hh.toInt.toNat)) 4 (fcS w hh.toInt.toNat <<< ((w - Int32.ofInt 1).toInt64 &&& 63))) 5 (lowS w)) 6 (lowS w <<< ((w * (hh - Int32.ofInt 1)).toInt64 &&& 63))))) rfl (at_ _ _) (by decide) (Nat.le_of_ble_eq_true rfl) rfl (List.set_set ..) ?_
    refine g_aload_n (i := 0) rfl rfl ?_
    refine g_iconst (n := (-1)) rfl ?_
    refine g_putfield (h1 := h.set p (fO p (upd (upd (upd I 0 w) 1 hh) 8 (Int32.ofInt (-1))) (vp_updL (vp_updL (vp_updL (vp_updL (vp_updL G 2 (lowS (w * hh))) 3 (fcS w hh.toInt.toNat)) 4 (fcS w hh.toInt.toNat <<< ((w - Int32.ofInt 1).toInt64 &&& 63))) 5 (lowS w)) 6 (lowS w <<< ((w * (hh - Int32.ofInt 1)).toInt64 &&& 63))))) rfl (at_ _ _) (by decide) (Nat.le_of_ble_eq_true rfl) rfl (List.set_set ..) ?_
    refine g_aload_n (i := 0) rfl rfl ?_
    refine g_iconst (n := (-1)) rfl ?_
    refine g_putfield (h1 := h.set p (fO p (upd (upd (upd (upd I 0 w) 1 hh) 8 (Int32.ofInt (-1))) 9 (Int32.ofInt (-1))) (vp_updL (vp_updL (vp_updL (vp_updL (vp_updL G 2 (lowS (w * hh))) 3 (fcS w hh.toInt.toNat)) 4 (fcS w hh.toInt.toNat <<< ((w - Int32.ofInt 1).toInt64 &&& 63))) 5 (lowS w)) 6 (lowS w <<< ((w * (hh - Int32.ofInt 1)).toInt64 &&& 63))))) rfl (at_ _ _) (by decide) (Nat.le_of_ble_eq_true rfl) rfl (List.set_set ..) ?_
    have F1 : FC (h.set p (fO p (upd (upd (upd (upd I 0 w) 1 hh) 8 (Int32.ofInt (-1))) 9 (Int32.ofInt (-1))) (vp_updL (vp_updL (vp_updL (vp_updL (vp_updL G 2 (lowS (w * hh))) 3 (fcS w hh.toInt.toNat)) 4 (fcS w hh.toInt.toNat <<< ((w - Int32.ofInt 1).toInt64 &&& 63))) 5 (lowS w)) 6 (lowS w <<< ((w * (hh - Int32.ofInt 1)).toInt64 &&& 63))))) p (szI w hh I, szG w hh G, so, sh, wo, fo, ow) := FC_0 F
    have E1 : fE p h (h.set p (fO p (upd (upd (upd (upd I 0 w) 1 hh) 8 (Int32.ofInt (-1))) 9 (Int32.ofInt (-1))) (vp_updL (vp_updL (vp_updL (vp_updL (vp_updL G 2 (lowS (w * hh))) 3 (fcS w hh.toInt.toNat)) 4 (fcS w hh.toInt.toNat <<< ((w - Int32.ofInt 1).toInt64 &&& 63))) 5 (lowS w)) 6 (lowS w <<< ((w * (hh - Int32.ofInt 1)).toInt64 &&& 63))))) := fE_set fE_rfl (by omega) (by omega)
    generalize h.set p (fO p (upd (upd (upd (upd I 0 w) 1 hh) 8 (Int32.ofInt (-1))) 9 (Int32.ofInt (-1))) (vp_updL (vp_updL (vp_updL (vp_updL (vp_updL G 2 (lowS (w * hh))) 3 (fcS w hh.toInt.toNat)) 4 (fcS w hh.toInt.toNat <<< ((w - Int32.ofInt 1).toInt64 &&& 63))) 5 (lowS w)) 6 (lowS w <<< ((w * (hh - Int32.ofInt 1)).toInt64 &&& 63)))) = h1 at F1 E1
    refine g_aload_n (i := 0) rfl rfl ?_
    refine g_getfield (v := .ref (p + 1)) rfl F1.1 (by decide) rfl ?_
    refine g_static1 (Qc := fun r h' => r = none ∧ h' = h1.set (p + 1) (.inl (1, 6, .inr (.inl (zrF so 6))))) rfl (by decide) rfl (Nat.le_of_ble_eq_true rfl) (sDo_up (d := 1) (by omega) (s_empty (d := 0) F1.2.1 (by decide))) (fun r h9 hq9 => ?_)
    obtain ⟨rfl, rfl⟩ := hq9
    have F2 := FC_1 (so := zrF so 6) F1
    refine g_aload_n (i := 0) rfl rfl ?_
    refine g_getfield (v := .ref (p + 1)) rfl F2.1 (by decide) rfl ?_
    refine g_iconst (n := 0) rfl ?_
    refine g_aload_n (i := 0) rfl rfl ?_
    refine g_getfield (v := .long ((szG w hh G) 2)) rfl F2.1 (by decide) rfl ?_
    refine g_lastore rfl F2.2.1 (i_in (by decide) (by decide)) rfl ?_
    have F3 := FC_1 (so := vp_updL (zrF so 6) 0 (lowS (w * hh))) F2
    have E3 : fE p h ((h1.set (p + 1) (.inl (1, 6, .inr (.inl (zrF so 6))))).set (p + 1) (.inl (1, 6, .inr (.inl (vp_updL (zrF so 6) 0 (lowS (w * hh))))))) := fE_set (fE_set E1 (by omega) (by omega)) (by omega) (by omega)
    show sGo none 17 (d + 1) 137 _ [] ((h1.set (p + 1) (.inl (1, 6, .inr (.inl (zrF so 6))))).set (p + 1) (.inl (1, 6, .inr (.inl (vp_updL (zrF so 6) 0 (lowS (w * hh))))))) _
    generalize (h1.set (p + 1) (.inl (1, 6, .inr (.inl (zrF so 6))))).set (p + 1) (.inl (1, 6, .inr (.inl (vp_updL (zrF so 6) 0 (lowS (w * hh)))))) = h2 at F3 E3
    refine g_aload_n (i := 0) rfl rfl ?_
    refine g_getfield (v := .ref (p + 10)) rfl F3.1 (by decide) rfl ?_
    refine g_static1 (Qc := fun r h' => r = none ∧ h' = h2.set (p + 10) (.inl (1, 7, .inr (.inl (zrF ow 7))))) rfl (by decide) rfl (Nat.le_of_ble_eq_true rfl) (sDo_up (d := 1) (by omega) (s_empty (d := 0) F3.2.2.2.2.2.2 (by decide))) (fun r h9 hq9 => ?_)
    obtain ⟨rfl, rfl⟩ := hq9
    have F4 := FC_10 (ow := zrF ow 7) F3
    refine g_aload_n (i := 0) rfl rfl ?_
    refine g_getfield (v := .ref (p + 10)) rfl F4.1 (by decide) rfl ?_
    refine g_bipush (n := 6) rfl ?_
    refine g_aload_n (i := 0) rfl rfl ?_
    refine g_getfield (v := .long ((szG w hh G) 2)) rfl F4.1 (by decide) rfl ?_
    refine g_lastore rfl F4.2.2.2.2.2.2 (i_in (by decide) (by decide)) rfl ?_
    refine g_return rfl rfl ?_
    exact ⟨rfl, FC_10 (ow := vp_updL (zrF ow 7) 6 (lowS (w * hh))) F4, fE_set (fE_set E3 (by omega) (by omega)) (by omega) (by omega)⟩
end
