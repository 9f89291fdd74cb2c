/-! ===== act and trace: pairs ===== -/
theorem rf_p {k : Nat} {S : Nat} {s : Int32} {co : Nat → Int32} (hs : s.toInt = S) (hS : S < 8) (c0 : 0 ≤ (co S).toInt) (h7 : k < 7) (hk : (co S).toInt / 1000 = (k : Nat)) : bGx 2 249 k S s co (pv k s (cD (co S) (Int8.ofInt 100).toInt32)) (pL k) := by
  match k, h7, hk with
  | 0, _, hk => exact gp_0 (d := 0) hs hS c0 hk
  | 1, _, hk => exact gp_1 (d := 0) hs hS c0 hk
  | 2, _, hk => exact gp_2 (d := 0) hs hS c0 hk
  | 3, _, hk => exact gp_3 (d := 0) hs hS c0 hk
  | 4, _, hk => exact gp_4 (d := 0) hs hS c0 hk
  | 5, _, hk => exact gp_5 (d := 0) hs hS c0 hk
  | 6, _, hk => exact gp_6 (d := 0) hs hS c0 hk
  | k + 7, h7, hk => exact absurd h7 (by omega)
theorem rf_w {k : Nat} {S : Nat} {s : Int32} {co : Nat → Int32} (hs : s.toInt = S) (hS : S < 8) (c0 : 0 ≤ (co S).toInt) (h7 : k < 7) (hk : (co S).toInt / 1000 = (k : Nat)) : bGx 3 250 k S s co (wv k s (cD (co S) (Int8.ofInt 100).toInt32)) (wL k) := by
  match k, h7, hk with
  | 0, _, hk => exact gw_0 (d := 0) hs hS c0 hk
  | 1, _, hk => exact gw_1 (d := 0) hs hS c0 hk
  | 2, _, hk => exact gw_2 (d := 0) hs hS c0 hk
  | 3, _, hk => exact gw_3 (d := 0) hs hS c0 hk
  | 4, _, hk => exact gw_4 (d := 0) hs hS c0 hk
  | 5, _, hk => exact gw_5 (d := 0) hs hS c0 hk
  | 6, _, hk => exact gw_6 (d := 0) hs hS c0 hk
  | k + 7, h7, hk => exact absurd h7 (by omega)
theorem rf_h {k : Nat} {S : Nat} {s : Int32} {co : Nat → Int32} (hs : s.toInt = S) (hS : S < 8) (c0 : 0 ≤ (co S).toInt) (h7 : k < 7) (hk : (co S).toInt / 1000 = (k : Nat)) : bGx 4 251 k S s co (hv k s (cD (co S) (Int8.ofInt 100).toInt32)) (hL k) := by
  match k, h7, hk with
  | 0, _, hk => exact gh_0 (d := 0) hs hS c0 hk
  | 1, _, hk => exact gh_1 (d := 0) hs hS c0 hk
  | 2, _, hk => exact gh_2 (d := 0) hs hS c0 hk
  | 3, _, hk => exact gh_3 (d := 0) hs hS c0 hk
  | 4, _, hk => exact gh_4 (d := 0) hs hS c0 hk
  | 5, _, hk => exact gh_5 (d := 0) hs hS c0 hk
  | 6, _, hk => exact gh_6 (d := 0) hs hS c0 hk
  | k + 7, h7, hk => exact absurd h7 (by omega)
def aV (k : Nat) (a : Int) (s c x : Int32) : Int32 := if a = 0 then pv k s c x else if a = 1 then wv k s c x else if a = 2 then hv k s c x else 0
def aLs (k : Nat) (a : Int) : List Int32 := if a = 0 then pL k else if a = 1 then wL k else if a = 2 then hL k else []
theorem aLs_len {k : Nat} {a : Int} (h : k < 7) : (aLs k a).length ≤ 20 := by
  unfold aLs
  split
  · match k, h with
    | 0, _ | 1, _ | 2, _ | 3, _ | 4, _ | 5, _ | 6, _ => decide
    | k + 7, h => omega
  · split
    · match k, h with
      | 0, _ | 1, _ | 2, _ | 3, _ | 4, _ | 5, _ | 6, _ => decide
      | k + 7, h => omega
    · split
      · match k, h with
        | 0, _ | 1, _ | 2, _ | 3, _ | 4, _ | 5, _ | 6, _ => decide
        | k + 7, h => omega
      · decide
theorem s_noCut {d : Nat} {h : sHp} {fs : List Value} {f g : Nat → Option Nat} {s : Int32} {S : Nat} {ot z nc : Int32} (hf : h[0]? = some (.inr (11, fs))) (f0 : fs[0]? = some (.ref 1)) (f1 : fs[1]? = some (.ref 2)) (a1 : h[1]? = some (.inl (3, 8, .inr (.inr (.inr (.inr f)))))) (a2 : ∀ s, s < 8 → f s = some (44 + 2 * s)) (a3 : h[2]? = some (.inl (4, 8, .inr (.inr (.inr (.inr g)))))) (hs : s.toInt = S) (hS : S < 8) (b1 : h[44 + 2 * S]? = some (.inr (7, [.int ot, .int z, .ref (45 + 2 * S)]))) (hn : (¬ ot = -1 ∧ nc = -2) ∨ (g S = none ∧ ot = -1 ∧ nc = -3) ∨ (∃ p, g S = some p ∧ ot = -1 ∧ nc = 0)) : sDo (d + 2) 162 [.ref 0, .int s] h (fun r h' => h' = h ∧ r = some (.int nc)) := by
  have sn : s.toNatClampNeg = S := i_nat hs
  have fS : va_rf (f s.toNatClampNeg) = .ref (44 + 2 * S) := by rw [sn, a2 S hS]; rfl
  refine sDo_of (d := d + 1) (nL := 2) (L := [some (.ref 0), some (.int s)]) rfl rfl ?_
  refine g_iload_n (i := 1) rfl rfl ?_
  refine g_static1 (Qc := fun r h' => h' = h ∧ r = some (.int 1)) rfl (by decide) rfl (Nat.le_of_ble_eq_true rfl) (s_sh11 (by rw [if_pos (by omega)])) (fun r h9 hq9 => ?_)
  obtain ⟨rfl, rfl⟩ := hq9
  refine g_if_ne 9 rfl rfl (fun _ => ?_) (fun hc => absurd hc (by decide))
  refine g_aload_n (i := 0) rfl rfl ?_
  refine g_getfield (v := .ref 1) rfl hf (by decide) f0 ?_
  refine g_iload_n (i := 1) rfl rfl ?_
  refine g_aaload rfl a1 (by decide) (i_in (by omega) (by omega)) ?_
  rw [fS]
  rcases hn with ⟨ho, rfl⟩ | ⟨hg, ho, rfl⟩ | ⟨p, hg, ho, rfl⟩
  · skip
    refine g_virt0 (Qc := fun r h' => h' = h9 ∧ r = some (.int 1)) rfl (by decide) rfl b1 rfl (Nat.le_of_ble_eq_true rfl) (s_isHeld b1 (by rw [if_neg ho])) (fun r h8 hq9 => ?_)
    obtain ⟨rfl, rfl⟩ := hq9
    refine g_if_eq 24 rfl rfl (fun hc => absurd hc (by decide)) (fun _ => ?_)
    refine g_bipush (n := (-2)) rfl ?_
    refine g_ireturn (ty := .int) rfl rfl rfl ?_
    exact ⟨rfl, rfl⟩
  · skip
    refine g_virt0 (Qc := fun r h' => h' = h9 ∧ r = some (.int 0)) rfl (by decide) rfl b1 rfl (Nat.le_of_ble_eq_true rfl) (s_isHeld b1 (by rw [if_pos ho])) (fun r h8 hq9 => ?_)
    obtain ⟨rfl, rfl⟩ := hq9
    refine g_if_eq 24 rfl rfl (fun _ => ?_) (fun hc => absurd hc (by decide))
    refine g_aload_n (i := 0) rfl rfl ?_
    refine g_getfield (v := .ref 2) rfl hf (by decide) f1 ?_
    refine g_iload_n (i := 1) rfl rfl ?_
    have hgS : va_rf (g s.toNatClampNeg) = .null := by rw [sn, hg]; rfl
    refine g_aaload rfl a3 (by decide) (i_in (by omega) (by omega)) ?_
    rw [hgS]
    refine g_ifnullN 37 rfl rfl ?_
    refine g_bipush (n := (-3)) rfl ?_
    refine g_ireturn (ty := .int) rfl rfl rfl ?_
    exact ⟨rfl, rfl⟩
  · skip
    refine g_virt0 (Qc := fun r h' => h' = h9 ∧ r = some (.int 0)) rfl (by decide) rfl b1 rfl (Nat.le_of_ble_eq_true rfl) (s_isHeld b1 (by rw [if_pos ho])) (fun r h8 hq9 => ?_)
    obtain ⟨rfl, rfl⟩ := hq9
    refine g_if_eq 24 rfl rfl (fun _ => ?_) (fun hc => absurd hc (by decide))
    refine g_aload_n (i := 0) rfl rfl ?_
    refine g_getfield (v := .ref 2) rfl hf (by decide) f1 ?_
    refine g_iload_n (i := 1) rfl rfl ?_
    have hgS : va_rf (g s.toNatClampNeg) = .ref p := by rw [sn, hg]; rfl
    refine g_aaload rfl a3 (by decide) (i_in (by omega) (by omega)) ?_
    rw [hgS]
    refine g_ifnull 37 rfl rfl ?_
    refine g_iconst (n := 0) rfl ?_
    refine g_goto 39 rfl rfl ?_
    refine g_ireturn (ty := .int) rfl rfl rfl ?_
    exact ⟨rfl, rfl⟩
theorem s_noCutO {d : Nat} {h : sHp} {s : Int32} (hs : ¬ (0 ≤ s.toInt ∧ s.toInt < 8)) : sDo (d + 2) 162 [.ref 0, .int s] h (fun r h' => h' = h ∧ r = some (.int (-1))) := by
  refine sDo_of (d := d + 1) (nL := 2) (L := [some (.ref 0), some (.int s)]) rfl rfl ?_
  refine g_iload_n (i := 1) rfl rfl ?_
  refine g_static1 (Qc := fun r h' => h' = h ∧ r = some (.int 0)) rfl (by decide) rfl (Nat.le_of_ble_eq_true rfl) (s_sh11 (by rw [if_neg hs])) (fun r h9 hq9 => ?_)
  obtain ⟨rfl, rfl⟩ := hq9
  refine g_if_ne 9 rfl rfl (fun hc => absurd hc (by decide)) (fun _ => ?_)
  refine g_iconst (n := (-1)) rfl ?_
  refine g_ireturn (ty := .int) rfl rfl rfl ?_
  exact ⟨rfl, rfl⟩
theorem s_act11 {h : sHp} {fs : List Value} {l0 : List Int32} {s a x nc y : Int32} {L : List Int32} (hf : h[0]? = some (.inr (11, fs))) (f1 : fs[1]? = some (.ref 2)) (f2 : fs[2]? = some (.ref 3)) (t : tC h l0) (hnc : ∀ h1, tE h h1 → sDo 2 162 [.ref 0, .int s] h1 (fun r h' => h' = h1 ∧ r = some (.int nc))) (hx : (¬ nc = 0 ∧ y = 0 ∧ L = []) ∨ (nc = 0 ∧ (a.toInt < 0 ∨ 2 < a.toInt) ∧ y = 0 ∧ L = []) ∨ (nc = 0 ∧ ∃ (g : Nat → Option Nat) (S p k : Nat) (c : Int32), h[2]? = some (.inl (4, 8, .inr (.inr (.inr (.inr g))))) ∧ s.toInt = S ∧ S < 8 ∧ g S = some p ∧ 79 ≤ p ∧ k < 7 ∧ h[p]? = some (.inr (bKl7 k, cutFs s c)) ∧ bKl7 k ∈ bCutL ∧ ((a.toInt = 0 ∧ y = pv k s (cD c (Int8.ofInt 100).toInt32) x ∧ L = pL k) ∨ (a.toInt = 1 ∧ y = wv k s (cD c (Int8.ofInt 100).toInt32) x ∧ L = wL k) ∨ (a.toInt = 2 ∧ y = hv k s (cD c (Int8.ofInt 100).toInt32) x ∧ L = hL k)))) (hL : L.length ≤ 20) : sDo 10 152 [.ref 0, .int s, .int a, .int x] h (fun r h' => r = some (.int y) ∧ tE h h' ∧ tC h' L) := by
  obtain ⟨so, el, h3, h4, -⟩ := t
  refine sDo_of (d := 9) (nL := 4) (L := [some (.ref 0), some (.int s), some (.int a), some (.int x)]) rfl rfl ?_
  refine g_aload_n (i := 0) rfl rfl ?_
  refine g_getfield (v := .ref 3) rfl hf (by decide) f2 ?_
  refine g_iconst (n := 2) rfl ?_
  refine g_iconst (n := 0) rfl ?_
  refine g_virt2 (Qc := fun r h' => r = none ∧ tE h h' ∧ tC h' []) rfl (by decide) rfl h3 rfl (Nat.le_of_ble_eq_true rfl) (sDo_up (d := 1) (by decide) (s_renew (d := 0) h3 h4 (by decide) (by decide) (by decide) (fun el' hel => ⟨rfl, ⟨_, _, List.set_comm (i := 3) (j := 4) _ _ (by decide)⟩, Int32.ofInt 2, el', ?_, ?_, fun i v hv => by cases hv⟩))) (fun r h1 hq => ?_)
  · rw [s_set_ne (by decide)]; exact s_set_eq h3
  · exact s_set_eq (by rw [s_set_ne (by decide)]; exact h4)
  obtain ⟨rfl, e1, t1⟩ := hq
  have hf1 := (tE_at e1 (p := 0) (by decide) (by decide)).trans hf
  refine g_aload_n (i := 0) rfl rfl ?_
  refine g_iload_n (i := 1) rfl rfl ?_
  refine g_virt1 rfl (by decide) rfl hf1 rfl (Nat.le_of_ble_eq_true rfl) (sDo_up (d := 2) (by decide) (hnc h1 e1)) (fun r h2 hq => ?_)
  obtain ⟨rfl, rfl⟩ := hq
  rcases hx with ⟨n0, rfl, rfl⟩ | ⟨n0, ha, rfl, rfl⟩ | ⟨n0, g, S, p, k, c, a3, hs, hS, hgS, hp3, hk, hp, hc, hx⟩
  · skip
    refine g_if_eq 19 rfl rfl (fun hc => absurd hc (by exact n0)) (fun _ => ?_)
    refine g_iconst (n := 0) rfl ?_
    refine g_ireturn (ty := .int) rfl rfl rfl ?_
    exact ⟨rfl, e1, t1⟩
  · skip
    refine g_if_eq 19 rfl rfl (fun _ => ?_) (fun hc => absurd hc (by exact fun z => z n0))
    refine g_iload_n (i := 2) rfl rfl ?_
    have hF : sFk 152 20 = some (.tableswitch 61 0 2 #[28, 39, 50]) := rfl
    refine go_jmp (pc1 := 81) (st1 := []) hF rfl ?_ ?_
    · show (if a.toInt < 0 ∨ 2 < a.toInt then (sTgt 20 61).map (fun t => (t, ([] : List Value))) else _) = _
      rw [if_pos ha]; rfl
    · skip
      refine g_iconst (n := 0) rfl ?_
      refine g_ireturn (ty := .int) rfl rfl rfl ?_
      exact ⟨rfl, e1, t1⟩
  · skip
    refine g_if_eq 19 rfl rfl (fun _ => ?_) (fun hc => absurd hc (by exact fun z => z n0))
    refine g_iload_n (i := 2) rfl rfl ?_
    have hF : sFk 152 20 = some (.tableswitch 61 0 2 #[28, 39, 50]) := rfl
    have sn : s.toNatClampNeg = S := i_nat hs
    have fG : va_rf (g s.toNatClampNeg) = .ref p := by rw [sn, hgS]; rfl
    have a31 := (tE_at e1 (p := 2) (by decide) (by decide)).trans a3
    have hp1 := (tE_at e1 (p := p) (by omega) (by omega)).trans hp
    obtain ⟨hg2, hg3, -⟩ := cut_ty hc
    rcases hx with ⟨ha, rfl, rfl⟩ | ⟨ha, rfl, rfl⟩ | ⟨ha, rfl, rfl⟩
    · skip
      refine go_jmp (pc1 := 48) (st1 := []) hF rfl ?_ ?_
      · show (if a.toInt < 0 ∨ 2 < a.toInt then _ else (match #[(28 : Int), 39, 50][(a.toInt - 0).toNat]? with
          | some off => (sTgt 20 off).map (fun t => (t, ([] : List Value)))
          | none => none)) = _
        rw [if_neg (by omega), show (a.toInt - 0).toNat = 0 by omega]; rfl
      · skip
        refine g_aload_n (i := 0) rfl rfl ?_
        refine g_getfield (v := .ref 2) rfl hf1 (by decide) f1 ?_
        refine g_iload_n (i := 1) rfl rfl ?_
        refine g_aaload rfl a31 (by decide) (i_in (by omega) (by omega)) ?_
        rw [fG]
        refine g_iload_n (i := 3) rfl rfl ?_
        refine g_fam rfl (by decide) hp1 ⟨hg2, hg3⟩ (Nat.le_of_ble_eq_true rfl) (sDo_up (d := 4) (by decide) (fam_p hk hp3 _ _ _ hp1 t1 (by rw [List.length_nil]; omega))) (fun r h3 hq => ?_)
        obtain ⟨rfl, e2, t2⟩ := hq
        refine g_ireturn (ty := .int) rfl rfl rfl ?_
        exact ⟨rfl, tE_tr e1 e2, t2⟩
    · skip
      refine go_jmp (pc1 := 59) (st1 := []) hF rfl ?_ ?_
      · show (if a.toInt < 0 ∨ 2 < a.toInt then _ else (match #[(28 : Int), 39, 50][(a.toInt - 0).toNat]? with
          | some off => (sTgt 20 off).map (fun t => (t, ([] : List Value)))
          | none => none)) = _
        rw [if_neg (by omega), show (a.toInt - 0).toNat = 1 by omega]; rfl
      · skip
        refine g_aload_n (i := 0) rfl rfl ?_
        refine g_getfield (v := .ref 2) rfl hf1 (by decide) f1 ?_
        refine g_iload_n (i := 1) rfl rfl ?_
        refine g_aaload rfl a31 (by decide) (i_in (by omega) (by omega)) ?_
        rw [fG]
        refine g_iload_n (i := 3) rfl rfl ?_
        refine g_fam rfl (by decide) hp1 ⟨hg2, hg3⟩ (Nat.le_of_ble_eq_true rfl) (sDo_up (d := 7) (by decide) (fam_w hk hp3 _ _ _ hp1 t1 (by rw [List.length_nil]; omega))) (fun r h3 hq => ?_)
        obtain ⟨rfl, e2, t2⟩ := hq
        refine g_ireturn (ty := .int) rfl rfl rfl ?_
        exact ⟨rfl, tE_tr e1 e2, t2⟩
    · skip
      refine go_jmp (pc1 := 70) (st1 := []) hF rfl ?_ ?_
      · show (if a.toInt < 0 ∨ 2 < a.toInt then _ else (match #[(28 : Int), 39, 50][(a.toInt - 0).toNat]? with
          | some off => (sTgt 20 off).map (fun t => (t, ([] : List Value)))
          | none => none)) = _
        rw [if_neg (by omega), show (a.toInt - 0).toNat = 2 by omega]; rfl
      · skip
        refine g_aload_n (i := 0) rfl rfl ?_
        refine g_getfield (v := .ref 2) rfl hf1 (by decide) f1 ?_
        refine g_iload_n (i := 1) rfl rfl ?_
        refine g_aaload rfl a31 (by decide) (i_in (by omega) (by omega)) ?_
        rw [fG]
        refine g_iload_n (i := 3) rfl rfl ?_
        refine g_fam rfl (by decide) hp1 ⟨hg2, hg3⟩ (Nat.le_of_ble_eq_true rfl) (sDo_up (d := 9) (by decide) (fam_h hk hp3 _ _ _ hp1 t1 (by rw [List.length_nil]; omega))) (fun r h3 hq => ?_)
        obtain ⟨rfl, e2, t2⟩ := hq
        refine g_ireturn (ty := .int) rfl rfl rfl ?_
        exact ⟨rfl, tE_tr e1 e2, t2⟩
theorem s_act12 {h : sHp} {l0 : List Int32} {hd co : Nat → Int32} {s a x y : Int32} {L : List Int32} (t : tR h l0) (a4 : h[67]? = some (.inl (0, 8, .inl hd))) (a7 : h[70]? = some (.inl (0, 8, .inl co))) (hx : (¬ (0 ≤ s.toInt ∧ s.toInt < 8) ∧ y = 0 ∧ L = []) ∨ ∃ S : Nat, s.toInt = S ∧ S < 8 ∧ ((¬ hd S = 2 ∧ y = 0 ∧ L = []) ∨ (hd S = 2 ∧ (a.toInt < 0 ∨ 2 < a.toInt) ∧ y = 0 ∧ L = []) ∨ (hd S = 2 ∧ ∃ k : Nat, k < 7 ∧ 0 ≤ (co S).toInt ∧ (co S).toInt / 1000 = k ∧ ((a.toInt = 0 ∧ y = pv k s (cD (co S) (Int8.ofInt 100).toInt32) x ∧ L = pL k) ∨ (a.toInt = 1 ∧ y = wv k s (cD (co S) (Int8.ofInt 100).toInt32) x ∧ L = wL k) ∨ (a.toInt = 2 ∧ y = hv k s (cD (co S) (Int8.ofInt 100).toInt32) x ∧ L = hL k))))) (hL : L.length ≤ 20) : sDo 10 252 [.ref 60, .int s, .int a, .int x] h (fun r h' => r = some (.int y) ∧ tG h h' ∧ tR h' L) := by
  obtain ⟨fs0, tr, hf0, f14, f17, f35, f36, h78, -⟩ := t
  have hln : 36 < fs0.length := (List.getElem?_eq_some_iff.mp f36).1
  have e0 : (0 : Int32).toInt = 0 := rfl
  have e2 : (Int32.ofInt 2).toInt = 2 := rfl
  have e1' : (Int32.ofInt 1).toInt = 1 := rfl
  refine sDo_of (d := 9) (nL := 4) (L := [some (.ref 60), some (.int s), some (.int a), some (.int x)]) rfl rfl ?_
  refine g_aload_n (i := 0) rfl rfl ?_
  refine g_iconst (n := 0) rfl ?_
  refine g_putfield (h1 := (h.set 60 (.inr (12, fs0.set 36 (.int (Int32.ofInt 0)))))) rfl hf0 (by decide) hln rfl rfl ?_
  have eG : tG h (h.set 60 (.inr (12, fs0.set 36 (.int (Int32.ofInt 0))))) := ⟨_, _, by rw [s_set_self h78]⟩
  have hf : (h.set 60 (.inr (12, fs0.set 36 (.int (Int32.ofInt 0)))))[60]? = some (.inr (12, fs0.set 36 (.int (Int32.ofInt 0)))) := s_set_eq hf0
  have g14 : (fs0.set 36 (.int (Int32.ofInt 0)))[14]? = some (.ref 67) := by rw [List.getElem?_set_ne (by decide)]; exact f14
  have t1 : tR (h.set 60 (.inr (12, fs0.set 36 (.int (Int32.ofInt 0))))) [] := ⟨_, tr, hf, g14, by rw [List.getElem?_set_ne (by decide)]; exact f17, by rw [List.getElem?_set_ne (by decide)]; exact f35, List.getElem?_set_self hln, by rw [s_set_ne (by decide)]; exact h78, fun i v hv => by cases hv⟩
  have b4 := (tG_at eG (p := 67) (by decide) (by decide)).trans a4
  have b7 := (tG_at eG (p := 70) (by decide) (by decide)).trans a7
  generalize (h.set 60 (.inr (12, fs0.set 36 (.int (Int32.ofInt 0))))) = h1 at eG hf t1 b4 b7
  generalize fs0.set 36 (.int (Int32.ofInt 0)) = fs at hf g14
  rcases hx with ⟨hs, rfl, rfl⟩ | ⟨S, hs, hS, hx⟩
  · skip
    refine g_aload_n (i := 0) rfl rfl ?_
    refine g_iload_n (i := 1) rfl rfl ?_
    refine g_virt1 (Qc := fun r h' => h' = h1 ∧ r = some (.int 0)) rfl (by decide) rfl hf rfl (Nat.le_of_ble_eq_true rfl) (s_sh12 (by rw [if_neg hs])) (fun r h9 hq9 => ?_)
    obtain ⟨rfl, rfl⟩ := hq9
    refine g_if_eq 32 rfl rfl (fun _ => ?_) (fun hc => absurd hc (by decide))
    refine g_iconst (n := 0) rfl ?_
    refine g_ireturn (ty := .int) rfl rfl rfl ?_
    exact ⟨rfl, eG, t1⟩
  · skip
    have sn : s.toNatClampNeg = S := i_nat hs
    refine g_aload_n (i := 0) rfl rfl ?_
    refine g_iload_n (i := 1) rfl rfl ?_
    refine g_virt1 (Qc := fun r h' => h' = h1 ∧ r = some (.int 1)) rfl (by decide) rfl hf rfl (Nat.le_of_ble_eq_true rfl) (s_sh12 (by rw [if_pos (by omega)])) (fun r h9 hq9 => ?_)
    obtain ⟨rfl, rfl⟩ := hq9
    refine g_if_eq 32 rfl rfl (fun hc => absurd hc (by decide)) (fun _ => ?_)
    refine g_aload_n (i := 0) rfl rfl ?_
    refine g_getfield (v := .ref 67) rfl hf (by decide) g14 ?_
    refine g_iload_n (i := 1) rfl rfl ?_
    refine g_ialv (n := 8) (f := hd) (v := hd S) rfl b4 (i_in (by omega) (by omega)) (congrArg hd sn) ?_
    refine g_iconst (n := 2) rfl ?_
    rcases hx with ⟨h2, rfl, rfl⟩ | ⟨h2, ha, rfl, rfl⟩ | ⟨h2, k, h7, c0, hk, hx⟩
    · skip
      refine g_icmp_ne 32 rfl rfl (fun _ => ?_) (fun hc => absurd hc (by exact h2))
      refine g_iconst (n := 0) rfl ?_
      refine g_ireturn (ty := .int) rfl rfl rfl ?_
      exact ⟨rfl, eG, t1⟩
    · skip
      refine g_icmp_ne 32 rfl rfl (fun hc => absurd hc (by exact fun z => z h2)) (fun _ => ?_)
      refine g_iload_n (i := 2) rfl rfl ?_
      refine g_if_lt 32 rfl rfl (fun c1 => ?_) (fun c1 => ?_)
      · skip
        refine g_iconst (n := 0) rfl ?_
        refine g_ireturn (ty := .int) rfl rfl rfl ?_
        exact ⟨rfl, eG, t1⟩
      · skip
        rw [i_lt, e0] at c1
        refine g_iload_n (i := 2) rfl rfl ?_
        refine g_iconst (n := 2) rfl ?_
        refine g_icmp_le 34 rfl rfl (fun hc => absurd hc (by rw [i_le, e2]; omega)) (fun _ => ?_)
        refine g_iconst (n := 0) rfl ?_
        refine g_ireturn (ty := .int) rfl rfl rfl ?_
        exact ⟨rfl, eG, t1⟩
    · skip
      refine g_icmp_ne 32 rfl rfl (fun hc => absurd hc (by exact fun z => z h2)) (fun _ => ?_)
      rcases hx with ⟨ha, rfl, rfl⟩ | ⟨ha, rfl, rfl⟩ | ⟨ha, rfl, rfl⟩
      · skip
        have hav : a = Int32.ofInt 0 := Int32.toInt_inj.mp (ha.trans rfl)
        refine g_iload_n (i := 2) rfl rfl ?_
        refine g_if_lt 32 rfl rfl (fun hc => absurd hc (by rw [i_lt, e0]; omega)) (fun _ => ?_)
        refine g_iload_n (i := 2) rfl rfl ?_
        refine g_iconst (n := 2) rfl ?_
        refine g_icmp_le 34 rfl rfl (fun _ => ?_) (fun hc => absurd hc (by rw [i_le, e2]; omega))
        refine g_iload_n (i := 2) rfl rfl ?_
        refine g_if_ne 47 rfl rfl (fun hc => absurd hc (by rw [hav]; decide)) (fun _ => ?_)
        refine g_aload_n (i := 0) rfl rfl ?_
        refine g_iload_n (i := 1) rfl rfl ?_
        refine g_iload_n (i := 3) rfl rfl ?_
        refine g_virt2 rfl (by decide) rfl hf rfl (Nat.le_of_ble_eq_true rfl) (sDo_up (d := 2) (by decide) (rf_p hs hS c0 h7 hk _ _ _ t1 b7 (by rw [List.length_nil]; omega))) (fun r h3 hq => ?_)
        obtain ⟨rfl, e2_, t2⟩ := hq
        refine g_goto 67 rfl rfl ?_
        refine g_ireturn (ty := .int) rfl rfl rfl ?_
        exact ⟨rfl, tG_tr eG e2_, t2⟩
      · skip
        have hav : a = Int32.ofInt 1 := Int32.toInt_inj.mp (ha.trans rfl)
        refine g_iload_n (i := 2) rfl rfl ?_
        refine g_if_lt 32 rfl rfl (fun hc => absurd hc (by rw [i_lt, e0]; omega)) (fun _ => ?_)
        refine g_iload_n (i := 2) rfl rfl ?_
        refine g_iconst (n := 2) rfl ?_
        refine g_icmp_le 34 rfl rfl (fun _ => ?_) (fun hc => absurd hc (by rw [i_le, e2]; omega))
        refine g_iload_n (i := 2) rfl rfl ?_
        refine g_if_ne 47 rfl rfl (fun _ => ?_) (fun hc => absurd hc (by rw [hav]; decide))
        refine g_iload_n (i := 2) rfl rfl ?_
        refine g_iconst (n := 1) rfl ?_
        refine g_icmp_ne 61 rfl rfl (fun hc => absurd hc (by rw [hav]; decide)) (fun _ => ?_)
        refine g_aload_n (i := 0) rfl rfl ?_
        refine g_iload_n (i := 1) rfl rfl ?_
        refine g_iload_n (i := 3) rfl rfl ?_
        refine g_virt2 rfl (by decide) rfl hf rfl (Nat.le_of_ble_eq_true rfl) (sDo_up (d := 3) (by decide) (rf_w hs hS c0 h7 hk _ _ _ t1 b7 (by rw [List.length_nil]; omega))) (fun r h3 hq => ?_)
        obtain ⟨rfl, e2_, t2⟩ := hq
        refine g_goto 67 rfl rfl ?_
        refine g_ireturn (ty := .int) rfl rfl rfl ?_
        exact ⟨rfl, tG_tr eG e2_, t2⟩
      · skip
        have hav : a = Int32.ofInt 2 := Int32.toInt_inj.mp (ha.trans rfl)
        refine g_iload_n (i := 2) rfl rfl ?_
        refine g_if_lt 32 rfl rfl (fun hc => absurd hc (by rw [i_lt, e0]; omega)) (fun _ => ?_)
        refine g_iload_n (i := 2) rfl rfl ?_
        refine g_iconst (n := 2) rfl ?_
        refine g_icmp_le 34 rfl rfl (fun _ => ?_) (fun hc => absurd hc (by rw [i_le, e2]; omega))
        refine g_iload_n (i := 2) rfl rfl ?_
        refine g_if_ne 47 rfl rfl (fun _ => ?_) (fun hc => absurd hc (by rw [hav]; decide))
        refine g_iload_n (i := 2) rfl rfl ?_
        refine g_iconst (n := 1) rfl ?_
        refine g_icmp_ne 61 rfl rfl (fun _ => ?_) (fun hc => absurd hc (by rw [hav]; decide))
        refine g_aload_n (i := 0) rfl rfl ?_
        refine g_iload_n (i := 1) rfl rfl ?_
        refine g_iload_n (i := 3) rfl rfl ?_
        refine g_virt2 rfl (by decide) rfl hf rfl (Nat.le_of_ble_eq_true rfl) (sDo_up (d := 4) (by decide) (rf_h hs hS c0 h7 hk _ _ _ t1 b7 (by rw [List.length_nil]; omega))) (fun r h3 hq => ?_)
        obtain ⟨rfl, e2_, t2⟩ := hq
        refine g_ireturn (ty := .int) rfl rfl rfl ?_
        exact ⟨rfl, tG_tr eG e2_, t2⟩
theorem s_trace11 {h : sHp} {fs : List Value} {l : List Int32} {i y : Int32} (hf : h[0]? = some (.inr (11, fs))) (f2 : fs[2]? = some (.ref 3)) (t : tC h l) (hl : l.length ≤ 20) (hx : (¬ (0 ≤ i.toInt ∧ i.toInt < l.length) ∧ y = -1) ∨ (0 ≤ i.toInt ∧ i.toInt < l.length ∧ l[i.toNatClampNeg]? = some y)) : sDo 10 153 [.ref 0, .int i] h (fun r h' => r = some (.int y) ∧ h' = h) := by
  obtain ⟨so, el, h3, h4, ht⟩ := t
  have en := ofN_toInt (n := l.length) (by omega)
  have e20 : (Int8.ofInt 20).toInt32.toInt = 20 := rfl
  refine sDo_of (d := 9) (nL := 2) (L := [some (.ref 0), some (.int i)]) rfl rfl ?_
  refine g_aload_n (i := 0) rfl rfl ?_
  refine g_getfield (v := .ref 3) rfl hf (by decide) f2 ?_
  refine g_iload_n (i := 1) rfl rfl ?_
  rcases hx with ⟨hi, rfl⟩ | ⟨i0, i1, hy⟩
  · skip
    refine g_virt1 (Qc := fun r h' => h' = h ∧ r = some (.int 0)) rfl (by decide) rfl h3 rfl (Nat.le_of_ble_eq_true rfl) (s_has7 h3 (by rw [en, if_neg hi])) (fun r h9 hq9 => ?_)
    obtain ⟨rfl, rfl⟩ := hq9
    refine g_if_eq 28 rfl rfl (fun _ => ?_) (fun hc => absurd hc (by decide))
    refine g_iconst (n := (-1)) rfl ?_
    refine g_ireturn (ty := .int) rfl rfl rfl ?_
    exact ⟨rfl, rfl⟩
  · skip
    refine g_virt1 (Qc := fun r h' => h' = h ∧ r = some (.int 1)) rfl (by decide) rfl h3 rfl (Nat.le_of_ble_eq_true rfl) (s_has7 h3 (by rw [en, if_pos ⟨i0, i1⟩])) (fun r h9 hq9 => ?_)
    obtain ⟨rfl, rfl⟩ := hq9
    refine g_if_eq 28 rfl rfl (fun hc => absurd hc (by decide)) (fun _ => ?_)
    refine g_iload_n (i := 1) rfl rfl ?_
    refine g_bipush (n := 20) rfl ?_
    refine g_icmp_ge 28 rfl rfl (fun hc => absurd hc (by rw [i_le, e20]; omega)) (fun _ => ?_)
    refine g_aload_n (i := 0) rfl rfl ?_
    refine g_getfield (v := .ref 3) rfl hf (by decide) f2 ?_
    refine g_iload_n (i := 1) rfl rfl ?_
    refine g_virt1 (Qc := fun r h' => h' = h9 ∧ r = some (.int y)) rfl (by decide) rfl h3 rfl (Nat.le_of_ble_eq_true rfl) (sDo_up (d := 2) (by decide) ?_) (fun r h8 hq9 => ?_)
    · skip
      refine sDo_of (d := 1) (nL := 2) (L := [some (.ref 3), some (.int i)]) rfl rfl ?_
      refine g_aload_n (i := 0) rfl rfl ?_
      refine g_iload_n (i := 1) rfl rfl ?_
      refine g_virt1 (Qc := fun r h' => h' = h9 ∧ r = some (.int 1)) rfl (by decide) rfl h3 rfl (Nat.le_of_ble_eq_true rfl) (s_has7 h3 (by rw [en, if_pos ⟨i0, i1⟩])) (fun r h8 hq9 => ?_)
      obtain ⟨rfl, rfl⟩ := hq9
      refine g_if_eq 18 rfl rfl (fun hc => absurd hc (by decide)) (fun _ => ?_)
      refine g_aload_n (i := 0) rfl rfl ?_
      refine g_getfield (v := .ref 4) rfl h3 (by decide) rfl ?_
      refine g_iload_n (i := 1) rfl rfl ?_
      refine g_laload (n := 100) (f := el) rfl h4 (i_in (by omega) (by omega)) ?_
      rw [ht _ _ hy]
      refine g_l2i rfl ?_
      rw [Int32.toInt32_toInt64]
      refine g_goto 19 rfl rfl ?_
      refine g_ireturn (ty := .int) rfl rfl rfl ?_
      exact ⟨rfl, rfl⟩
    · skip
      obtain ⟨rfl, rfl⟩ := hq9
      refine g_goto 29 rfl rfl ?_
      refine g_ireturn (ty := .int) rfl rfl rfl ?_
      exact ⟨rfl, rfl⟩
theorem s_trace12 {h : sHp} {l : List Int32} {i y : Int32} (t : tR h l) (hl : l.length ≤ 20) (hx : (¬ (0 ≤ i.toInt ∧ i.toInt < l.length) ∧ y = -1) ∨ (0 ≤ i.toInt ∧ i.toInt < l.length ∧ l[i.toNatClampNeg]? = some y)) : sDo 10 253 [.ref 60, .int i] h (fun r h' => r = some (.int y) ∧ h' = h) := by
  obtain ⟨fs, tr, hf, f14, f17, f35, f36, h78, ht⟩ := t
  have en := ofN_toInt (n := l.length) (by omega)
  have e20 : (Int8.ofInt 20).toInt32.toInt = 20 := rfl
  have e0 : (0 : Int32).toInt = 0 := rfl
  refine sDo_of (d := 9) (nL := 2) (L := [some (.ref 60), some (.int i)]) rfl rfl ?_
  rcases hx with ⟨hi, rfl⟩ | ⟨i0, i1, hy⟩
  · skip
    refine g_iload_n (i := 1) rfl rfl ?_
    refine g_if_lt 27 rfl rfl (fun c1 => ?_) (fun c1 => ?_)
    · skip
      refine g_iconst (n := (-1)) rfl ?_
      refine g_ireturn (ty := .int) rfl rfl rfl ?_
      exact ⟨rfl, rfl⟩
    · skip
      rw [i_lt, e0] at c1
      refine g_iload_n (i := 1) rfl rfl ?_
      refine g_bipush (n := 20) rfl ?_
      refine g_icmp_ge 27 rfl rfl (fun c2 => ?_) (fun c2 => ?_)
      · skip
        refine g_iconst (n := (-1)) rfl ?_
        refine g_ireturn (ty := .int) rfl rfl rfl ?_
        exact ⟨rfl, rfl⟩
      · skip
        refine g_iload_n (i := 1) rfl rfl ?_
        refine g_aload_n (i := 0) rfl rfl ?_
        refine g_getfield (v := .int (Int32.ofNat l.length)) rfl hf (by decide) f36 ?_
        refine g_icmp_ge 27 rfl rfl (fun _ => ?_) (fun hc => absurd hc (by rw [i_le, en]; omega))
        refine g_iconst (n := (-1)) rfl ?_
        refine g_ireturn (ty := .int) rfl rfl rfl ?_
        exact ⟨rfl, rfl⟩
  · skip
    refine g_iload_n (i := 1) rfl rfl ?_
    refine g_if_lt 27 rfl rfl (fun hc => absurd hc (by rw [i_lt, e0]; omega)) (fun _ => ?_)
    refine g_iload_n (i := 1) rfl rfl ?_
    refine g_bipush (n := 20) rfl ?_
    refine g_icmp_ge 27 rfl rfl (fun hc => absurd hc (by rw [i_le, e20]; omega)) (fun _ => ?_)
    refine g_iload_n (i := 1) rfl rfl ?_
    refine g_aload_n (i := 0) rfl rfl ?_
    refine g_getfield (v := .int (Int32.ofNat l.length)) rfl hf (by decide) f36 ?_
    refine g_icmp_ge 27 rfl rfl (fun hc => absurd hc (by rw [i_le, en]; omega)) (fun _ => ?_)
    refine g_aload_n (i := 0) rfl rfl ?_
    refine g_getfield (v := .ref 78) rfl hf (by decide) f35 ?_
    refine g_iload_n (i := 1) rfl rfl ?_
    refine g_ialv (n := 20) (f := tr) (v := y) rfl h78 (i_in (by omega) (by omega)) (ht _ _ hy) ?_
    refine g_goto 28 rfl rfl ?_
    refine g_ireturn (ty := .int) rfl rfl rfl ?_
    exact ⟨rfl, rfl⟩
def bTR (h : sHp) : Prop := ∃ l : List Int32, l.length ≤ 20 ∧ tC h l ∧ tR h l
def bTM : List Nat := [192, 193, 194, 256, 3854, 3857, 3875, 3876, 4992]
theorem bFr_fld {W g : Nat} {h h' : sHp} {p K ci : Nat} {fs : List Value} (a : bFr W g h h') (hc : h[p]? = some (.inr (ci, fs))) (hk : bKp p (.inr (ci, fs)) = K) : ∃ fs' : List Value, h'[p]? = some (.inr (ci, fs')) ∧ ∀ j, W.testBit (K * 64 + j) = false → fs'[j]? = fs[j]? := by
  obtain ⟨c', h1, h2⟩ := a.2.2 p _ hc
  rcases c' with ⟨t', n', d'⟩ | ⟨ci', fs'⟩
  · exact h2.elim
  · obtain ⟨rfl, e2, e3, -⟩ := h2
    rw [hk] at e3
    exact ⟨fs', h1, e3⟩
theorem bTR_fr {W gg : Nat} {h h' : sHp} (a : bFr W gg h h') (hW : ∀ b ∈ bTM, W.testBit b = false) (q : bTR h) : bTR h' := by
  obtain ⟨l, hl, ⟨so, el, h3, h4, ht⟩, fs, tr, hf, f14, f17, f35, f36, h78, ht2⟩ := q
  obtain ⟨fs', hf', he⟩ := bFr_fld (K := 60) a hf rfl
  refine ⟨l, hl, ⟨so, el, bFr_obj (K := 3) (n := 3) a h3 rfl rfl (fun j hj => hW _ ?_), bFr_arr (K := 4) a h4 (by decide) rfl (hW _ (by decide)), ht⟩, fs', tr, hf', (he 14 (hW _ (by decide))).trans f14, (he 17 (hW _ (by decide))).trans f17, (he 35 (hW _ (by decide))).trans f35, (he 36 (hW _ (by decide))).trans f36, bFr_arr (K := 78) a h78 (by decide) rfl (hW _ (by decide)), ht2⟩
  match j, hj with
  | 0, _ => decide
  | 1, _ => decide
  | 2, _ => decide
  | j + 3, hj => omega
def bR6 (h : sHp) : Prop := bR5 h ∧ bTR h
def bR6M : List Nat := bRM ++ bTM
theorem bR6_fr {W gg : Nat} {h h' : sHp} (a : bFr W gg h h') (hW : ∀ b ∈ bR6M, W.testBit b = false) (q : bR6 h) : bR6 h' := ⟨bR5_fr a (fun b hb => hW b (List.mem_append_left _ hb)) q.1, bTR_fr a (fun b hb => hW b (List.mem_append_right _ hb)) q.2⟩
def bPair6 (k1 k2 : Nat) (as : List Value) : Prop := ∀ h, bH h → bR6 h → sDo 10 k1 (.ref 0 :: as) h (fun r1 h1 => bH h1 ∧ h1.length ≤ h.length + 1 ∧ sDo 10 k2 (.ref 60 :: as) h1 (fun r2 h2 => bH h2 ∧ h2.length ≤ h1.length + 1 ∧ bR6 h2 ∧ ∃ x, r1 = some x ∧ r2 = some x))
theorem fr_use {c : bCn} {vs : List Value} (hc : bHolds c) (hd : Nat.ble c.2.1 10 = true) (ho : c.2.2.2.1 = []) {h : sHp} (hH : bH h) (ht : bTl h c.2.2.1 vs) : sDo 10 c.1 vs h (fun _ h' => bFr c.2.2.2.2.1 c.2.2.2.2.2.1 h h') :=
  sDo_up (Nat.le_of_ble_eq_true hd) (sDo_mono (hc h vs hH ht (by rw [ho]; exact fun e he => by cases he)) (fun r h' hen => hen.2.1))
theorem p6_of {c1 c2 : bCn} {as : List Value} (hp : bPair c1.1 c2.1 as) (h1 : bHolds c1) (h2 : bHolds c2) (d1 : Nat.ble c1.2.1 10 = true) (d2 : Nat.ble c2.2.1 10 = true) (o1 : c1.2.2.2.1 = []) (o2 : c2.2.2.2.1 = []) (w1 : ∀ b ∈ bTM, c1.2.2.2.2.1.testBit b = false) (w2 : ∀ b ∈ bTM, c2.2.2.2.2.1.testBit b = false) (t1 : ∀ h, bH h → bTl h c1.2.2.1 (.ref 0 :: as)) (t2 : ∀ h, bH h → bTl h c2.2.2.1 (.ref 60 :: as)) : bPair6 c1.1 c2.1 as := by
  intro h hH hR
  refine sDo_mono (sDo_and (hp h hH hR.1) (fr_use h1 d1 o1 hH (t1 h hH))) (fun r1 h1' q => ⟨q.1.1, q.1.2.1, ?_⟩)
  exact sDo_mono (sDo_and q.1.2.2 (fr_use h2 d2 o2 q.1.1 (t2 h1' q.1.1))) (fun r2 h2' z => ⟨z.1.1, z.1.2.1, ⟨z.1.2.2.1, bTR_fr z.2 w2 (bTR_fr q.2 w1 hR.2)⟩, z.1.2.2.2⟩)
theorem pr6_row (s : Int32) (a : Int32) (x : Int32) : bPair6 114 178 [.int s, .int a, .int x] := p6_of (c1 := cn_X11_row_0) (c2 := cn_X12_row_0) (pr_row s a x) ch_X11_row_0 ch_X12_row_0 (by decide +kernel) (by decide +kernel) rfl rfl (by decide +kernel) (by decide +kernel) (fun h hH => ⟨bt0 hH, vI0 s, vI0 a, vI0 x, trivial⟩) (fun h hH => ⟨bt60 hH, vI0 s, vI0 a, vI0 x, trivial⟩)
theorem pr6_set (s : Int32) (i : Int32) (v : Int64) : bPair6 115 179 [.int s, .int i, .long v] := p6_of (c1 := cn_X11_set_0) (c2 := cn_X12_set_0) (pr_set s i v) ch_X11_set_0 ch_X12_set_0 (by decide +kernel) (by decide +kernel) rfl rfl (by decide +kernel) (by decide +kernel) (fun h hH => ⟨bt0 hH, vI0 s, vI0 i, vL0 v, trivial⟩) (fun h hH => ⟨bt60 hH, vI0 s, vI0 i, vL0 v, trivial⟩)
theorem pr6_cut (s : Int32) (c : Int32) : bPair6 118 182 [.int s, .int c] := p6_of (c1 := cn_X11_cut_0) (c2 := cn_X12_cut_0) (pr_cut s c) ch_X11_cut_0 ch_X12_cut_0 (by decide +kernel) (by decide +kernel) rfl rfl (by decide +kernel) (by decide +kernel) (fun h hH => ⟨bt0 hH, vI0 s, vI0 c, trivial⟩) (fun h hH => ⟨bt60 hH, vI0 s, vI0 c, trivial⟩)
theorem pr6_copy (p : Int32) (q : Int32) (i : Int32) (j : Int32) (n : Int32) : bPair6 116 180 [.int p, .int q, .int i, .int j, .int n] := p6_of (c1 := cn_X11_copy_0) (c2 := cn_X12_copy_0) (pr_copy p q i j n) ch_X11_copy_0 ch_X12_copy_0 (by decide +kernel) (by decide +kernel) rfl rfl (by decide +kernel) (by decide +kernel) (fun h hH => ⟨bt0 hH, vI0 p, vI0 q, vI0 i, vI0 j, vI0 n, trivial⟩) (fun h hH => ⟨bt60 hH, vI0 p, vI0 q, vI0 i, vI0 j, vI0 n, trivial⟩)
theorem tE_R5 {h h' : sHp} (a : tE h h') (q : bR5 h) : bR5 h' := by
  obtain ⟨c3, c4, rfl⟩ := a
  exact bR5_set (bR5_set q (by decide) (by decide) (by decide) (by decide) (by decide)) (by decide) (by decide) (by decide) (by decide) (by decide)
theorem tG_R5 {h h' : sHp} (a : tG h h') (q : bR5 h) : bR5 h' := by
  obtain ⟨c3, c4, rfl⟩ := a
  exact bR5_set (bR5_set q (by decide) (by decide) (by decide) (by decide) (by decide)) (by decide) (by decide) (by decide) (by decide) (by decide)
theorem tE_tR {h h' : sHp} {l : List Int32} (a : tE h h') (t : tR h l) : tR h' l := by
  obtain ⟨fs, tr, hf, f14, f17, f35, f36, h78, ht⟩ := t
  exact ⟨fs, tr, (tE_at a (by decide) (by decide)).trans hf, f14, f17, f35, f36, (tE_at a (by decide) (by decide)).trans h78, ht⟩
theorem tG_tC {h h' : sHp} {l : List Int32} (a : tG h h') (t : tC h l) : tC h' l := by
  obtain ⟨so, el, h3, h4, ht⟩ := t
  exact ⟨so, el, (tG_at a (by decide) (by decide)).trans h3, (tG_at a (by decide) (by decide)).trans h4, ht⟩
theorem pr6_act (s a x : Int32) : bPair6 152 252 [.int s, .int a, .int x] := by
  have c1 : ∀ h, bH h → sDo 10 152 (.ref 0 :: [.int s, .int a, .int x]) h (fun _ h' => bH h' ∧ h'.length ≤ h.length + 1) := fun h hH => pr_use ch_X11_act_0 (by decide +kernel) (by decide +kernel) rfl hH ⟨bt0 hH, vI0 s, vI0 a, vI0 x, trivial⟩
  have c2 : ∀ h, bH h → sDo 10 252 (.ref 60 :: [.int s, .int a, .int x]) h (fun _ h' => bH h' ∧ h'.length ≤ h.length + 1) := fun h hH => pr_use ch_X12_act_0 (by decide +kernel) (by decide +kernel) rfl hH ⟨bt60 hH, vI0 s, vI0 a, vI0 x, trivial⟩
  intro h hH hR
  obtain ⟨hR5, l0, hl0, tc, tr⟩ := hR
  obtain ⟨fs, hf, -, hfs⟩ := bFldK hH (p := 0) (by decide) rfl
  obtain ⟨v0, f0, r0⟩ := hfs 0 _ rfl
  cases bT_one (by decide) (by decide +kernel) r0
  obtain ⟨v1, f1, r1⟩ := hfs 1 _ rfl
  cases bT_one (by decide) (by decide +kernel) r1
  obtain ⟨v2, f2, r2⟩ := hfs 2 _ rfl
  cases bT_one (by decide) (by decide +kernel) r2
  have fin : ∀ (y : Int32) (L : List Int32), L.length ≤ 20 → sDo 10 152 (.ref 0 :: [.int s, .int a, .int x]) h (fun r h' => r = some (.int y) ∧ tE h h' ∧ tC h' L) → (∀ h1, tE h h1 → sDo 10 252 (.ref 60 :: [.int s, .int a, .int x]) h1 (fun r h' => r = some (.int y) ∧ tG h1 h' ∧ tR h' L)) → sDo 10 152 (.ref 0 :: [.int s, .int a, .int x]) h (fun r1 h1 => bH h1 ∧ h1.length ≤ h.length + 1 ∧ sDo 10 252 (.ref 60 :: [.int s, .int a, .int x]) h1 (fun r2 h2 => bH h2 ∧ h2.length ≤ h1.length + 1 ∧ bR6 h2 ∧ ∃ x, r1 = some x ∧ r2 = some x)) := by
    intro y L hL s1 s2
    refine sDo_mono (sDo_and (c1 h hH) s1) (fun r1 h1 q => ?_)
    obtain ⟨⟨q1, q2⟩, rfl, q3, q4⟩ := q
    refine ⟨q1, q2, sDo_mono (sDo_and (c2 h1 q1) (s2 h1 q3)) (fun r2 h2 z => ?_)⟩
    obtain ⟨⟨z1, z2⟩, rfl, z3, z4⟩ := z
    exact ⟨z1, z2, ⟨tG_R5 z3 (tE_R5 q3 hR5), L, hL, tG_tC z3 q4, z4⟩, _, rfl, rfl⟩
  have hR5c := hR5
  obtain ⟨hd, so, sz, co, cl, f, g, ⟨a1, a2, a3, a4, a5, a6, a7, a8⟩, q5⟩ := hR5c
  by_cases hs : 0 ≤ s.toInt ∧ s.toInt < 8
  · obtain ⟨S, hSe⟩ : ∃ S : Nat, s.toInt = S := ⟨s.toInt.toNat, by omega⟩
    have hS8 : S < 8 := by omega
    obtain ⟨ot, z, el, b1, b2, b3⟩ := q5 S hS8
    have nc : ∀ n : Int32, ((¬ ot = -1 ∧ n = -2) ∨ (g S = none ∧ ot = -1 ∧ n = -3) ∨ (∃ p, g S = some p ∧ ot = -1 ∧ n = 0)) → ∀ h1, tE h h1 → sDo 2 162 [.ref 0, .int s] h1 (fun r h' => h' = h1 ∧ r = some (.int n)) := fun n hn h1 e => s_noCut (d := 0) ((tE_at e (by decide) (by decide)).trans hf) f0 f1 ((tE_at e (by decide) (by decide)).trans a1) a2 ((tE_at e (by decide) (by decide)).trans a3) hSe hS8 ((tE_at e (by omega) (by omega)).trans b1) hn
    have no : ∀ n : Int32, ¬ n = 0 → ¬ hd S = 2 → (∀ h1, tE h h1 → sDo 2 162 [.ref 0, .int s] h1 (fun r h' => h' = h1 ∧ r = some (.int n))) → _ := fun n hn0 hh hn => fin 0 [] (by decide) (s_act11 hf f1 f2 tc hn (Or.inl ⟨hn0, rfl, rfl⟩) (by decide)) (fun h1 e => s_act12 (tE_tR e tr) ((tE_at e (by decide) (by decide)).trans a4) ((tE_at e (by decide) (by decide)).trans a7) (Or.inr ⟨S, hSe, hS8, Or.inl ⟨hh, rfl, rfl⟩⟩) (by decide))
    rcases b3 with ⟨x1, x2, x3⟩ | ⟨x1, x2, x3, x4, -⟩ | ⟨x1, x2, p, x3, x4, x5, x6, x7⟩
    · exact no (-3) (by decide) (by rw [x1]; decide) (nc (-3) (Or.inr (Or.inl ⟨x2, x3, rfl⟩)))
    · refine no (-2) (by decide) (by rw [x1]; decide) (nc (-2) (Or.inl ⟨fun z => ?_, rfl⟩))
      rw [z] at x4
      exact absurd x4 (by decide)
    · have n0 := nc 0 (Or.inr (Or.inr ⟨p, x4, x2, rfl⟩))
      have hsS : Int32.ofNat S = s := by
        apply Int32.toInt_inj.mp
        rw [Int32.toInt_ofNat_of_lt (by omega), hSe]
      rw [hsS] at x5
      have hk7 : ((co S).toInt / 1000).toNat < 7 := by omega
      have hke : (co S).toInt / 1000 = (((co S).toInt / 1000).toNat : Int) := by omega
      have yes : ∀ (y : Int32) (L : List Int32), L.length ≤ 20 → ((a.toInt = 0 ∧ y = pv ((co S).toInt / 1000).toNat s (cD (co S) (Int8.ofInt 100).toInt32) x ∧ L = pL ((co S).toInt / 1000).toNat) ∨ (a.toInt = 1 ∧ y = wv ((co S).toInt / 1000).toNat s (cD (co S) (Int8.ofInt 100).toInt32) x ∧ L = wL ((co S).toInt / 1000).toNat) ∨ (a.toInt = 2 ∧ y = hv ((co S).toInt / 1000).toNat s (cD (co S) (Int8.ofInt 100).toInt32) x ∧ L = hL ((co S).toInt / 1000).toNat)) → _ := fun y L hL hy => fin y L hL (s_act11 hf f1 f2 tc n0 (Or.inr (Or.inr ⟨rfl, g, S, p, _, co S, a3, hSe, hS8, x4, x3, hk7, x5, bKi_in (co S), hy⟩)) hL) (fun h1 e => s_act12 (tE_tR e tr) ((tE_at e (by decide) (by decide)).trans a4) ((tE_at e (by decide) (by decide)).trans a7) (Or.inr ⟨S, hSe, hS8, Or.inr (Or.inr ⟨x1, _, hk7, x6, hke, hy⟩)⟩) hL)
      have hlen := fun a => aLs_len (a := a) hk7
      by_cases ha0 : a.toInt = 0
      · exact yes _ _ (hlen 0) (Or.inl ⟨ha0, rfl, rfl⟩)
      · by_cases ha1 : a.toInt = 1
        · exact yes _ _ (hlen 1) (Or.inr (Or.inl ⟨ha1, rfl, rfl⟩))
        · by_cases ha2 : a.toInt = 2
          · exact yes _ _ (hlen 2) (Or.inr (Or.inr ⟨ha2, rfl, rfl⟩))
          · exact fin 0 [] (by decide) (s_act11 hf f1 f2 tc n0 (Or.inr (Or.inl ⟨rfl, by omega, rfl, rfl⟩)) (by decide)) (fun h1 e => s_act12 (tE_tR e tr) ((tE_at e (by decide) (by decide)).trans a4) ((tE_at e (by decide) (by decide)).trans a7) (Or.inr ⟨S, hSe, hS8, Or.inr (Or.inl ⟨x1, by omega, rfl, rfl⟩)⟩) (by decide))
  · exact fin 0 [] (by decide) (s_act11 (nc := -1) hf f1 f2 tc (fun h1 e => s_noCutO (d := 0) hs) (Or.inl ⟨by decide, rfl, rfl⟩) (by decide)) (fun h1 e => s_act12 (tE_tR e tr) ((tE_at e (by decide) (by decide)).trans a4) ((tE_at e (by decide) (by decide)).trans a7) (Or.inl ⟨hs, rfl, rfl⟩) (by decide))
theorem pr6_trace (i : Int32) : bPair6 153 253 [.int i] := by
  intro h hH hR
  have hRc := hR
  obtain ⟨hR5, l, hl, tc, tr⟩ := hRc
  obtain ⟨fs, hf, -, hfs⟩ := bFldK hH (p := 0) (by decide) rfl
  obtain ⟨v2, f2, r2⟩ := hfs 2 _ rfl
  cases bT_one (by decide) (by decide +kernel) r2
  have fin : ∀ y : Int32, ((¬ (0 ≤ i.toInt ∧ i.toInt < l.length) ∧ y = -1) ∨ (0 ≤ i.toInt ∧ i.toInt < l.length ∧ l[i.toNatClampNeg]? = some y)) → sDo 10 153 (.ref 0 :: [.int i]) h (fun r1 h1 => bH h1 ∧ h1.length ≤ h.length + 1 ∧ sDo 10 253 (.ref 60 :: [.int i]) h1 (fun r2 h2 => bH h2 ∧ h2.length ≤ h1.length + 1 ∧ bR6 h2 ∧ ∃ x, r1 = some x ∧ r2 = some x)) := fun y hy => sDo_mono (s_trace11 hf f2 tc hl hy) (fun r1 h1 q => by
    obtain ⟨rfl, rfl⟩ := q
    exact ⟨hH, Nat.le_succ _, sDo_mono (s_trace12 tr hl hy) (fun r2 h2 z => by
      obtain ⟨rfl, rfl⟩ := z
      exact ⟨hH, Nat.le_succ _, hR, _, rfl, rfl⟩)⟩)
  by_cases hi : 0 ≤ i.toInt ∧ i.toInt < l.length
  · have in_ : (i.toNatClampNeg : Int) = i.toInt := by
      show ((i.toInt.toNat : Nat) : Int) = i.toInt
      omega
    exact fin _ (Or.inr ⟨hi.1, hi.2, List.getElem?_eq_getElem (show i.toNatClampNeg < l.length by omega)⟩)
  · exact fin (-1) (Or.inl ⟨hi, rfl⟩)
