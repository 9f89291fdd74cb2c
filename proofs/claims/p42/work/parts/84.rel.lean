/-! ===== texts: words ===== -/
/-- how many letters of a word stand from a place on -/
def alS (T : Nat → Int32) (p v : Nat) : Nat → Nat → Nat
  | 0, i => i
  | f + 1, i => if T (p + i) = sTxC v i then alS T p v f (i + 1) else i
theorem alS_le (T : Nat → Int32) (p v : Nat) : ∀ f i, i ≤ alS T p v f i ∧ alS T p v f i ≤ i + f := by
  intro f
  induction f with
  | zero => intro i; exact ⟨Nat.le_refl _, Nat.le_refl _⟩
  | succ f ih =>
    intro i
    unfold alS
    by_cases c : T (p + i) = sTxC v i
    · rw [if_pos c]
      have := ih (i + 1)
      omega
    · rw [if_neg c]
      omega
def wlS (v : Nat) : Nat := sTxL.getD v 0
theorem wlS_le (v : Nat) : wlS v ≤ 5 := by
  unfold wlS
  match v with
  | 0 | 1 | 2 | 3 | 4 | 5 | 6 => decide
  | k + 7 => exact (show (0 : Nat) ≤ 5 by decide)
theorem g_len {X : sX} {k d pc v c : Nat} {L : sLo} {st : List Value} {h : sHp} {Q : Option Value → sHp → Prop} (hF : sFk k pc = some (.invokeinterface 3000 c)) (hv : v < 7) (hcat : (st.map (fun v => v.category)).sum ≤ 8) (hd : 2 ≤ d) (hp : sLen (.invokeinterface 3000 c) = 3) (g : sGo X k d (pc + 3) L (.int (Int32.ofNat (wlS v)) :: st) h Q) : sGo X k d pc L (.ref (2000000 + v) :: st) h Q := by
  refine go_call (k1 := 300) (as := [.ref (2000000 + v)]) (rest := st) (Qc := fun r h' => r = some (.int (Int32.ofNat (wlS v))) ∧ h' = h) hF rfl ?_ hcat (sDo_up hd ⟨0, _, _, s_len_at hv h, rfl, rfl⟩) (fun r h1 hq => ?_)
  · unfold sCal
    dsimp only
    rw [show sPop (3000 - 3000) (.ref (2000000 + v) :: st) = some ([], .ref (2000000 + v) :: st) from rfl]
    exact if_pos (b_itf2 hv)
  · obtain ⟨rfl, rfl⟩ := hq
    exact g
theorem g_chr {X : sX} {k d pc v c : Nat} {L : sLo} {st : List Value} {h : sHp} {Q : Option Value → sHp → Prop} {x : Int32} (hF : sFk k pc = some (.invokeinterface 3001 c)) (hv : v < 7) (hcat : (st.map (fun v => v.category)).sum ≤ 8) (hd : 4 ≤ d) (hx : ¬ (x < 0 ∨ wlS v ≤ x.toNatClampNeg)) (g : sGo X k d (pc + 3) L (.int (sTxC v x.toNatClampNeg) :: st) h Q) : sGo X k d pc L (.int x :: .ref (2000000 + v) :: st) h Q := by
  refine go_call (k1 := 301) (as := [.ref (2000000 + v), .int x]) (rest := st) (Qc := fun r h' => r = some (.int (sTxC v x.toNatClampNeg)) ∧ h' = h) hF rfl ?_ hcat (sDo_up hd ⟨0, _, _, s_chr_at hv h hx, rfl, rfl⟩) (fun r h1 hq => ?_)
  · unfold sCal
    dsimp only
    rw [show sPop (3001 - 3000) (.int x :: .ref (2000000 + v) :: st) = some ([.int x], .ref (2000000 + v) :: st) by unfold sPop; rw [if_pos (by simp only [List.length_cons]; omega)]; rfl]
    exact if_pos (b_itf2 hv)
  · obtain ⟨rfl, rfl⟩ := hq
    exact g
theorem s_lettersAlike_go {d : Nat} {h : sHp} {rp tp ep n A v : Nat} {ot flt : Int32} {el : Nat → Int64} (hr : h[rp]? = some (rd tp flt A)) (ht : h[tp]? = some (.inr (7, [.int ot, .int (Int32.ofNat n), .ref ep]))) (he : h[ep]? = some (.inl (1, 100, .inr (.inl el)))) (hn : n ≤ 100) (hA : A < 990) (hv : v < 7) (hd : 4 ≤ d) : ∀ (f i : Nat), f + i = wlS v → sGo none 71 d 2 [some (.ref rp), some (.ref (2000000 + v)), some (.int (Int32.ofNat i))] [] h (fun r h' => h' = h ∧ r = some (.int (Int32.ofNat (alS (tx el n) A v f i)))) := by
  have hw := wlS_le v
  have eA := ofN_toInt (n := A) (by omega)
  have ew := ofN_toInt (n := wlS v) (by omega)
  intro f
  induction f with
  | zero =>
    intro i hi
    have ei := ofN_toInt (n := i) (by omega)
    refine g_iload_n (i := 2) rfl rfl ?_
    refine g_aload_n (i := 1) rfl rfl ?_
    refine g_len rfl hv (Nat.le_of_ble_eq_true rfl) (by omega) rfl ?_
    refine g_icmp_ge 39 rfl rfl (fun _ => ?_) (fun hc => absurd hc (by rw [i_le, ew, ei]; omega))
    refine g_aload_n (i := 1) rfl rfl ?_
    refine g_len rfl hv (Nat.le_of_ble_eq_true rfl) (by omega) rfl ?_
    refine g_ireturn (ty := .int) rfl rfl rfl ?_
    exact ⟨rfl, by unfold alS; rw [show wlS v = i by omega]⟩
  | succ f ih =>
    intro i hi
    have ei := ofN_toInt (n := i) (by omega)
    refine g_iload_n (i := 2) rfl rfl ?_
    refine g_aload_n (i := 1) rfl rfl ?_
    refine g_len rfl hv (Nat.le_of_ble_eq_true rfl) (by omega) rfl ?_
    refine g_icmp_ge 39 rfl rfl (fun hc => absurd hc (by rw [i_le, ew, ei]; omega)) (fun _ => ?_)
    refine g_aload_n (i := 0) rfl rfl ?_
    refine g_getfield (v := .ref tp) rfl hr (by decide) rfl ?_
    refine g_aload_n (i := 0) rfl rfl ?_
    refine g_getfield (v := .int (Int32.ofNat A)) rfl hr (by decide) rfl ?_
    refine g_iload_n (i := 2) rfl rfl ?_
    refine g_iadd rfl ?_
    have eai : (Int32.ofNat A + Int32.ofNat i).toInt = ((A + i : Nat) : Int) := by rw [i_add (by rw [eA, ei]; omega) (by rw [eA, ei]; omega), eA, ei]; omega
    refine g_virt1 (Qc := fun r h' => h' = h ∧ r = some (.int (tx el n (A + i)))) rfl (by decide) rfl ht rfl (Nat.le_of_ble_eq_true rfl) (sDo_up (d := 2) (by omega) (s_intR (d := 0) ht he hn eai)) (fun r h9 hq9 => ?_)
    obtain ⟨rfl, rfl⟩ := hq9
    refine g_aload_n (i := 1) rfl rfl ?_
    refine g_iload_n (i := 2) rfl rfl ?_
    refine g_chr rfl hv (Nat.le_of_ble_eq_true rfl) (by omega) (i_in (by omega) (by omega)) ?_
    rw [i_nat ei]
    unfold alS
    refine g_icmp_eq 33 rfl rfl (fun c1 => ?_) (fun c1 => ?_)
    · skip
      rw [if_pos c1]
      refine g_iinc (i := 2) (L1 := [some (.ref rp), some (.ref (2000000 + v)), some (.int ((Int32.ofNat i) + Int32.ofInt 1))]) rfl rfl rfl ?_
      rw [ofN_add (by omega)]
      refine g_goto 2 rfl rfl ?_
      exact ih (i + 1) (by omega)
    · skip
      rw [if_neg c1]
      refine g_iload_n (i := 2) rfl rfl ?_
      refine g_ireturn (ty := .int) rfl rfl rfl ?_
      exact ⟨rfl, rfl⟩
theorem s_lettersAlike {d : Nat} {h : sHp} {rp tp ep n A v : Nat} {ot flt : Int32} {el : Nat → Int64} (hr : h[rp]? = some (rd tp flt A)) (ht : h[tp]? = some (.inr (7, [.int ot, .int (Int32.ofNat n), .ref ep]))) (he : h[ep]? = some (.inl (1, 100, .inr (.inl el)))) (hn : n ≤ 100) (hA : A < 990) (hv : v < 7) (hd : 4 ≤ d) : sDo (d + 1) 71 [.ref rp, .ref (2000000 + v)] h (fun r h' => h' = h ∧ r = some (.int (Int32.ofNat (alS (tx el n) A v (wlS v) 0)))) := by
  refine sDo_of (d := d) (nL := 3) (L := [some (.ref rp), some (.ref (2000000 + v)), none]) rfl rfl ?_
  refine g_iconst (n := 0) rfl ?_
  refine g_istore_n (i := 2) (L1 := [some (.ref rp), some (.ref (2000000 + v)), some (.int (Int32.ofInt 0))]) rfl (Nat.le_of_ble_eq_true rfl) rfl ?_
  exact s_lettersAlike_go hr ht he hn hA hv hd (wlS v) 0 rfl
theorem s_wordOf {d : Nat} {h : sHp} {v : Nat} (hv : v < 7) : sDo (d + 1) 69 [.int (Int32.ofNat v)] h (fun r h' => h' = h ∧ r = some (.ref (2000000 + v))) := by
  have ev := ofN_toInt (n := v) (by omega)
  have hF : sFk 69 1 = some (.tableswitch 57 0 5 #[39, 42, 45, 48, 51, 54]) := rfl
  refine sDo_of (d := d) (nL := 1) (L := [some (.int (Int32.ofNat v))]) rfl rfl ?_
  refine g_iload_n (i := 0) rfl rfl ?_
  match v, hv, ev with
  | 0, _, ev =>
    refine go_jmp (pc1 := 40) (st1 := []) hF rfl rfl ?_
    refine go_heap (st1 := [.ref 2000000]) (h1 := h) (ins := .ldc 4294967296) rfl rfl rfl rfl ?_
    exact g_areturn rfl rfl ⟨rfl, rfl⟩
  | 1, _, ev =>
    refine go_jmp (pc1 := 43) (st1 := []) hF rfl rfl ?_
    refine go_heap (st1 := [.ref 2000001]) (h1 := h) (ins := .ldc 4294967297) rfl rfl rfl rfl ?_
    exact g_areturn rfl rfl ⟨rfl, rfl⟩
  | 2, _, ev =>
    refine go_jmp (pc1 := 46) (st1 := []) hF rfl rfl ?_
    refine go_heap (st1 := [.ref 2000002]) (h1 := h) (ins := .ldc 4294967298) rfl rfl rfl rfl ?_
    exact g_areturn rfl rfl ⟨rfl, rfl⟩
  | 3, _, ev =>
    refine go_jmp (pc1 := 49) (st1 := []) hF rfl rfl ?_
    refine go_heap (st1 := [.ref 2000003]) (h1 := h) (ins := .ldc 4294967299) rfl rfl rfl rfl ?_
    exact g_areturn rfl rfl ⟨rfl, rfl⟩
  | 4, _, ev =>
    refine go_jmp (pc1 := 52) (st1 := []) hF rfl rfl ?_
    refine go_heap (st1 := [.ref 2000004]) (h1 := h) (ins := .ldc 4294967300) rfl rfl rfl rfl ?_
    exact g_areturn rfl rfl ⟨rfl, rfl⟩
  | 5, _, ev =>
    refine go_jmp (pc1 := 55) (st1 := []) hF rfl rfl ?_
    refine go_heap (st1 := [.ref 2000005]) (h1 := h) (ins := .ldc 4294967301) rfl rfl rfl rfl ?_
    exact g_areturn rfl rfl ⟨rfl, rfl⟩
  | 6, _, ev =>
    refine go_jmp (pc1 := 58) (st1 := []) hF rfl rfl ?_
    refine go_heap (st1 := [.ref 2000006]) (h1 := h) (ins := .ldc 4294967302) rfl rfl rfl rfl ?_
    exact g_areturn rfl rfl ⟨rfl, rfl⟩
  | k + 7, hv, _ => exact absurd hv (by omega)
