/-! ===== texts: the class's reader ===== -/
def tx (el : Nat → Int64) (n : Nat) : Nat → Int32 := fun i => if i < n then (el i).toInt32 else 0
def dgS (x : Int32) : Option Nat := if 48 ≤ x.toInt ∧ x.toInt ≤ 57 then some (x.toInt - 48).toNat else none
theorem dgS_lt {x : Int32} {v : Nat} (h : dgS x = some v) : v ≤ 9 ∧ 48 ≤ x.toInt ∧ x.toInt ≤ 57 ∧ x.toInt = v + 48 := by
  unfold dgS at h
  by_cases c : 48 ≤ x.toInt ∧ x.toInt ≤ 57
  · rw [if_pos c] at h
    cases h
    omega
  · rw [if_neg c] at h
    cases h
/-- digits from a place on: the number and the place behind it -/
def numS (T : Nat → Int32) (p : Nat) (lo hi : Int) : Option (Nat × Nat) := match dgS (T p) with
  | none => none
  | some d => match dgS (T (p + 1)) with
    | none => if lo ≤ d ∧ (d : Int) ≤ hi then some (d, p + 1) else none
    | some e => if lo ≤ (10 * d + e : Nat) ∧ ((10 * d + e : Nat) : Int) ≤ hi then some (10 * d + e, p + 2) else none
/-- a blank and a number -/
def nxtS (T : Nat → Int32) (p : Nat) (lo hi : Int) : Option (Nat × Nat) := if T p = 32 then numS T (p + 1) lo hi else none
def rd (tp : Nat) (flt : Int32) (A : Nat) : va_E := .inr (6, [.int flt, .ref tp, .ref 27, .int (Int32.ofNat A)])
theorem s_intR {d : Nat} {h : sHp} {tp ep n I : Nat} {ot i : Int32} {el : Nat → Int64} (ht : h[tp]? = some (.inr (7, [.int ot, .int (Int32.ofNat n), .ref ep]))) (he : h[ep]? = some (.inl (1, 100, .inr (.inl el)))) (hn : n ≤ 100) (hi : i.toInt = I) : sDo (d + 2) 85 [.ref tp, .int i] h (fun r h' => h' = h ∧ r = some (.int (tx el n I))) := by
  have en := ofN_toInt (n := n) (by omega)
  refine sDo_of (d := d + 1) (nL := 2) (L := [some (.ref tp), some (.int i)]) rfl rfl ?_
  refine g_aload_n (i := 0) rfl rfl ?_
  refine g_iload_n (i := 1) rfl rfl ?_
  by_cases hin : I < n
  · skip
    refine g_virt1 (Qc := fun r h' => h' = h ∧ r = some (.int 1)) rfl (by decide) rfl ht rfl (Nat.le_of_ble_eq_true rfl) (s_has7 ht (by rw [en, if_pos (by omega)])) (fun r h9 hq9 => ?_)
    obtain ⟨rfl, rfl⟩ := hq9
    refine g_if_eq 18 rfl rfl (fun hc => absurd hc (by decide)) (fun _ => ?_)
    refine g_aload_n (i := 0) rfl rfl ?_
    refine g_getfield (v := .ref ep) rfl ht (by decide) rfl ?_
    refine g_iload_n (i := 1) rfl rfl ?_
    refine g_laload (n := 100) (f := el) rfl he (i_in (by omega) (by omega)) ?_
    rw [i_nat hi]
    refine g_l2i rfl ?_
    refine g_goto 19 rfl rfl ?_
    refine g_ireturn (ty := .int) rfl rfl rfl ?_
    exact ⟨rfl, by unfold tx; rw [if_pos hin]⟩
  · skip
    refine g_virt1 (Qc := fun r h' => h' = h ∧ r = some (.int 0)) rfl (by decide) rfl ht rfl (Nat.le_of_ble_eq_true rfl) (s_has7 ht (by rw [en, if_neg (by omega)])) (fun r h9 hq9 => ?_)
    obtain ⟨rfl, rfl⟩ := hq9
    refine g_if_eq 18 rfl rfl (fun _ => ?_) (fun hc => absurd hc (by decide))
    refine g_iconst (n := 0) rfl ?_
    refine g_ireturn (ty := .int) rfl rfl rfl ?_
    exact ⟨rfl, by unfold tx; rw [if_neg hin]; rfl⟩
theorem s_fails {d : Nat} {h : sHp} {rp tp A : Nat} {flt pl : Int32} (hr : h[rp]? = some (rd tp flt A)) : sDo (d + 1) 66 [.ref rp, .int pl] h (fun r h' => r = some (.int 0) ∧ h' = h.set rp (rd tp pl A)) := by
  refine sDo_of (d := d) (nL := 2) (L := [some (.ref rp), some (.int pl)]) rfl rfl ?_
  refine g_aload_n (i := 0) rfl rfl ?_
  refine g_iload_n (i := 1) rfl rfl ?_
  refine g_putfield (h1 := h.set rp (rd tp pl A)) rfl hr (by decide) (Nat.le_of_ble_eq_true rfl) rfl rfl ?_
  refine g_iconst (n := 0) rfl ?_
  refine g_ireturn (ty := .boolean) rfl rfl (by decide) ?_
  exact ⟨rfl, rfl⟩
theorem s_passesY {d : Nat} {h : sHp} {rp tp ep n A : Nat} {ot flt : Int32} {el : Nat → Int64} {c : Int32} (hr : h[rp]? = some (rd tp flt A)) (ht : h[tp]? = some (.inr (7, [.int ot, .int (Int32.ofNat n), .ref ep]))) (he : h[ep]? = some (.inl (1, 100, .inr (.inl el)))) (hn : n ≤ 100) (hA : A < 990) (hcc : tx el n A = c) : sDo (d + 3) 67 [.ref rp, .int c] h (fun r h' => r = some (.int 1) ∧ h' = h.set rp (rd tp flt (A + 1))) := by
  have eA := ofN_toInt (n := A) (by omega)
  refine sDo_of (d := d + 2) (nL := 2) (L := [some (.ref rp), some (.int c)]) rfl rfl ?_
  refine g_aload_n (i := 0) rfl rfl ?_
  refine g_getfield (v := .ref tp) rfl hr (by decide) rfl ?_
  refine g_aload_n (i := 0) rfl rfl ?_
  refine g_getfield (v := .int (Int32.ofNat A)) rfl hr (by decide) rfl ?_
  refine g_virt1 (Qc := fun r h' => h' = h ∧ r = some (.int (tx el n A))) rfl (by decide) rfl ht rfl (Nat.le_of_ble_eq_true rfl) (s_intR ht he hn eA) (fun r h9 hq9 => ?_)
  obtain ⟨rfl, rfl⟩ := hq9
  refine g_iload_n (i := 1) rfl rfl ?_
  refine g_icmp_eq 24 rfl rfl (fun _ => ?_) (fun hc => absurd hc (by exact fun z => z hcc))
  refine g_aload_n (i := 0) rfl rfl ?_
  refine g_dup rfl rfl ?_
  refine g_getfield (v := .int (Int32.ofNat A)) rfl hr (by decide) rfl ?_
  refine g_iconst (n := 1) rfl ?_
  refine g_iadd rfl ?_
  rw [ofN_add (by omega)]
  refine g_putfield (h1 := h9.set rp (rd tp flt (A + 1))) rfl hr (by decide) (Nat.le_of_ble_eq_true rfl) rfl rfl ?_
  refine g_iconst (n := 1) rfl ?_
  refine g_ireturn (ty := .boolean) rfl rfl (by decide) ?_
  exact ⟨rfl, rfl⟩
theorem s_passesN {d : Nat} {h : sHp} {rp tp ep n A : Nat} {ot flt : Int32} {el : Nat → Int64} {c : Int32} (hr : h[rp]? = some (rd tp flt A)) (ht : h[tp]? = some (.inr (7, [.int ot, .int (Int32.ofNat n), .ref ep]))) (he : h[ep]? = some (.inl (1, 100, .inr (.inl el)))) (hn : n ≤ 100) (hA : A < 990) (hcc : ¬ tx el n A = c) : sDo (d + 3) 67 [.ref rp, .int c] h (fun r h' => r = some (.int 0) ∧ h' = h.set rp (rd tp (Int32.ofNat A) A)) := by
  have eA := ofN_toInt (n := A) (by omega)
  refine sDo_of (d := d + 2) (nL := 2) (L := [some (.ref rp), some (.int c)]) rfl rfl ?_
  refine g_aload_n (i := 0) rfl rfl ?_
  refine g_getfield (v := .ref tp) rfl hr (by decide) rfl ?_
  refine g_aload_n (i := 0) rfl rfl ?_
  refine g_getfield (v := .int (Int32.ofNat A)) rfl hr (by decide) rfl ?_
  refine g_virt1 (Qc := fun r h' => h' = h ∧ r = some (.int (tx el n A))) rfl (by decide) rfl ht rfl (Nat.le_of_ble_eq_true rfl) (s_intR ht he hn eA) (fun r h9 hq9 => ?_)
  obtain ⟨rfl, rfl⟩ := hq9
  refine g_iload_n (i := 1) rfl rfl ?_
  refine g_icmp_eq 24 rfl rfl (fun hc => absurd hc (by exact hcc)) (fun _ => ?_)
  refine g_aload_n (i := 0) rfl rfl ?_
  refine g_aload_n (i := 0) rfl rfl ?_
  refine g_getfield (v := .int (Int32.ofNat A)) rfl hr (by decide) rfl ?_
  refine g_virt1 (Qc := fun r h' => r = some (.int 0) ∧ h' = List.set h9 rp (rd tp (Int32.ofNat A) A)) rfl (by decide) rfl hr rfl (Nat.le_of_ble_eq_true rfl) (sDo_up (d := 1) (by omega) (s_fails (d := 0) hr)) (fun r h8 hq9 => ?_)
  obtain ⟨rfl, rfl⟩ := hq9
  refine g_ireturn (ty := .boolean) rfl rfl (by decide) ?_
  exact ⟨rfl, rfl⟩
def dgI (x : Int32) : Int32 := match dgS x with
  | some v => Int32.ofNat v
  | none => Int32.ofInt (-1)
theorem s_digitAt {d : Nat} {h : sHp} {rp tp ep n A : Nat} {ot flt : Int32} {el : Nat → Int64} {i : Int32} {I : Nat} (hr : h[rp]? = some (rd tp flt A)) (ht : h[tp]? = some (.inr (7, [.int ot, .int (Int32.ofNat n), .ref ep]))) (he : h[ep]? = some (.inl (1, 100, .inr (.inl el)))) (hn : n ≤ 100) (hA : A < 990) (hi : i.toInt = I) : sDo (d + 3) 73 [.ref rp, .int i] h (fun r h' => h' = h ∧ r = some (.int (dgI (tx el n I)))) := by
  have e48 : (Int8.ofInt 48).toInt32.toInt = 48 := rfl
  have e57 : (Int8.ofInt 57).toInt32.toInt = 57 := rfl
  refine sDo_of (d := d + 2) (nL := 3) (L := [some (.ref rp), some (.int i), none]) rfl rfl ?_
  refine g_aload_n (i := 0) rfl rfl ?_
  refine g_getfield (v := .ref tp) rfl hr (by decide) rfl ?_
  refine g_iload_n (i := 1) rfl rfl ?_
  refine g_virt1 (Qc := fun r h' => h' = h ∧ r = some (.int (tx el n I))) rfl (by decide) rfl ht rfl (Nat.le_of_ble_eq_true rfl) (s_intR ht he hn hi) (fun r h9 hq9 => ?_)
  obtain ⟨rfl, rfl⟩ := hq9
  generalize tx el n I = x
  unfold dgI dgS
  refine g_istore_n (i := 2) (L1 := [some (.ref rp), some (.int i), some (.int x)]) rfl (Nat.le_of_ble_eq_true rfl) rfl ?_
  refine g_iload_n (i := 2) rfl rfl ?_
  refine g_bipush (n := 48) rfl ?_
  refine g_icmp_lt 28 rfl rfl (fun c1 => ?_) (fun c1 => ?_)
  · skip
    rw [i_lt, e48] at c1
    refine g_iconst (n := (-1)) rfl ?_
    refine g_ireturn (ty := .int) rfl rfl rfl ?_
    exact ⟨rfl, by rw [if_neg (by omega)]⟩
  · skip
    rw [i_lt, e48] at c1
    refine g_iload_n (i := 2) rfl rfl ?_
    refine g_bipush (n := 57) rfl ?_
    refine g_icmp_gt 28 rfl rfl (fun c2 => ?_) (fun c2 => ?_)
    · skip
      rw [i_lt, e57] at c2
      refine g_iconst (n := (-1)) rfl ?_
      refine g_ireturn (ty := .int) rfl rfl rfl ?_
      exact ⟨rfl, by rw [if_neg (by omega)]⟩
    · skip
      rw [i_lt, e57] at c2
      refine g_iload_n (i := 2) rfl rfl ?_
      refine g_bipush (n := 48) rfl ?_
      refine g_isub rfl ?_
      refine g_goto 29 rfl rfl ?_
      refine g_ireturn (ty := .int) rfl rfl rfl ?_
      refine ⟨rfl, ?_⟩
      rw [if_pos (by omega)]
      refine congrArg (fun v => some (Value.int v)) (Int32.toInt_inj.mp ?_)
      rw [i_sub (by rw [e48]; omega) (by rw [e48]; omega), e48, ofN_toInt (by omega)]
      omega
def qNum (rp tp : Nat) (flt : Int32) (h : sHp) (q : Option (Nat × Nat)) (r : Option Value) (h' : sHp) : Prop := match q with
  | some (v, A') => r = some (.int (Int32.ofNat v)) ∧ h' = h.set rp (rd tp flt A')
  | none => r = some (.int (Int32.ofInt (-1))) ∧ ∃ F A' : Nat, F < 999 ∧ h' = h.set rp (rd tp (Int32.ofNat F) A')
theorem s_rnTail {d : Nat} {h h0 : sHp} {rp tp A F v : Nat} {flt lo hi x5 : Int32} {q : Option (Nat × Nat)} (hr : h[rp]? = some (rd tp flt A)) (h0e : ∀ c, h.set rp c = h0.set rp c) (hh : h = h0.set rp (rd tp flt A)) (hv : v < 900) (hF : F < 999) (hq : q = if lo.toInt ≤ v ∧ (v : Int) ≤ hi.toInt then some (v, A) else none) : sGo none 72 (d + 1) 89 [some (.ref rp), some (.int lo), some (.int hi), some (.int (Int32.ofNat F)), some (.int (Int32.ofNat v)), some (.int x5)] [] h (qNum rp tp flt h0 q) := by
  have ev := ofN_toInt (n := v) (by omega)
  refine g_iload (i := 4) rfl rfl ?_
  refine g_iload_n (i := 1) rfl rfl ?_
  refine g_icmp_lt 101 rfl rfl (fun c1 => ?_) (fun c1 => ?_)
  · skip
    rw [i_lt, ev] at c1
    refine g_aload_n (i := 0) rfl rfl ?_
    refine g_iload_n (i := 3) rfl rfl ?_
    refine g_virt1 (Qc := fun r h' => r = some (.int 0) ∧ h' = List.set h rp (rd tp (Int32.ofNat F) A)) rfl (by decide) rfl hr rfl (Nat.le_of_ble_eq_true rfl) (sDo_up (d := 1) (by omega) (s_fails (d := 0) hr)) (fun r h8 hq9 => ?_)
    obtain ⟨rfl, rfl⟩ := hq9
    refine g_pop rfl rfl ?_
    refine g_iconst (n := (-1)) rfl ?_
    refine g_ireturn (ty := .int) rfl rfl rfl ?_
    rw [hq, if_neg (by omega)]
    exact ⟨rfl, F, A, hF, h0e _⟩
  · skip
    rw [i_lt, ev] at c1
    refine g_iload (i := 4) rfl rfl ?_
    refine g_iload_n (i := 2) rfl rfl ?_
    refine g_icmp_le 109 rfl rfl (fun c2 => ?_) (fun c2 => ?_)
    · skip
      rw [i_le, ev] at c2
      refine g_iload (i := 4) rfl rfl ?_
      refine g_ireturn (ty := .int) rfl rfl rfl ?_
      rw [hq, if_pos (by omega)]
      exact ⟨rfl, hh⟩
    · skip
      rw [i_le, ev] at c2
      refine g_aload_n (i := 0) rfl rfl ?_
      refine g_iload_n (i := 3) rfl rfl ?_
      refine g_virt1 (Qc := fun r h' => r = some (.int 0) ∧ h' = List.set h rp (rd tp (Int32.ofNat F) A)) rfl (by decide) rfl hr rfl (Nat.le_of_ble_eq_true rfl) (sDo_up (d := 1) (by omega) (s_fails (d := 0) hr)) (fun r h8 hq9 => ?_)
      obtain ⟨rfl, rfl⟩ := hq9
      refine g_pop rfl rfl ?_
      refine g_iconst (n := (-1)) rfl ?_
      refine g_ireturn (ty := .int) rfl rfl rfl ?_
      rw [hq, if_neg (by omega)]
      exact ⟨rfl, F, A, hF, h0e _⟩
theorem s_readNumber {d : Nat} {h : sHp} {rp tp ep n A : Nat} {ot flt : Int32} {el : Nat → Int64} {lo hi : Int32} (hr : h[rp]? = some (rd tp flt A)) (ht : h[tp]? = some (.inr (7, [.int ot, .int (Int32.ofNat n), .ref ep]))) (he : h[ep]? = some (.inl (1, 100, .inr (.inl el)))) (hn : n ≤ 100) (hA : A < 990) (hA2 : A < 900) (h1 : rp ≠ tp) (h2 : rp ≠ ep) : sDo (d + 4) 72 [.ref rp, .int lo, .int hi] h (qNum rp tp flt h (nxtS (tx el n) A lo.toInt hi.toInt)) := by
  have eA1 := ofN_toInt (n := A + 1) (by omega)
  have eA2 := ofN_toInt (n := A + 2) (by omega)
  have setr : ∀ (c c' : va_E), (h.set rp c).set rp c' = h.set rp c' := fun c c' => List.set_set ..
  have htS : ∀ c, (h.set rp c)[tp]? = some (.inr (7, [.int ot, .int (Int32.ofNat n), .ref ep])) := fun c => by rw [s_set_ne h1]; exact ht
  have heS : ∀ c, (h.set rp c)[ep]? = some (.inl (1, 100, .inr (.inl el))) := fun c => by rw [s_set_ne h2]; exact he
  have hrS : ∀ c, (h.set rp c)[rp]? = some c := fun c => s_set_eq hr
  unfold nxtS
  refine sDo_of (d := d + 3) (nL := 6) (L := [some (.ref rp), some (.int lo), some (.int hi), none, none, none]) rfl rfl ?_
  by_cases hb : tx el n A = 32
  · skip
    refine g_aload_n (i := 0) rfl rfl ?_
    refine g_bipush (n := 32) rfl ?_
    refine g_virt1 (Qc := fun r h' => r = some (.int 1) ∧ h' = h.set rp (rd tp flt (A + 1))) rfl (by decide) rfl hr rfl (Nat.le_of_ble_eq_true rfl) (sDo_up (d := 3) (by omega) (s_passesY (d := 0) hr ht he hn hA hb)) (fun r h9 hq9 => ?_)
    obtain ⟨rfl, rfl⟩ := hq9
    refine g_if_ne 11 rfl rfl (fun _ => ?_) (fun hc => absurd hc (by decide))
    have r1 := hrS (rd tp flt (A + 1))
    rw [if_pos hb]
    refine g_aload_n (i := 0) rfl rfl ?_
    refine g_getfield (v := .int (Int32.ofNat (A + 1))) rfl r1 (by decide) rfl ?_
    refine g_istore_n (i := 3) (L1 := [some (.ref rp), some (.int lo), some (.int hi), some (.int (Int32.ofNat (A + 1))), none, none]) rfl (Nat.le_of_ble_eq_true rfl) rfl ?_
    refine g_aload_n (i := 0) rfl rfl ?_
    refine g_aload_n (i := 0) rfl rfl ?_
    refine g_getfield (v := .int (Int32.ofNat (A + 1))) rfl r1 (by decide) rfl ?_
    refine g_virt1 (Qc := fun r h' => h' = h.set rp (rd tp flt (A + 1)) ∧ r = some (.int (dgI (tx el n (A + 1))))) rfl (by decide) rfl r1 rfl (Nat.le_of_ble_eq_true rfl) (sDo_up (d := 3) (by omega) (s_digitAt (d := 0) r1 (htS _) (heS _) hn (by omega) (ofN_toInt (n := A + 1) (by omega)))) (fun r h9 hq9 => ?_)
    obtain ⟨rfl, rfl⟩ := hq9
    unfold numS
    cases hd : dgS (tx el n (A + 1)) with
    | none =>
      have e1 : dgI (tx el n (A + 1)) = Int32.ofInt (-1) := by unfold dgI; rw [hd]
      rw [e1]
      refine g_istore (i := 4) (L1 := [some (.ref rp), some (.int lo), some (.int hi), some (.int (Int32.ofNat (A + 1))), some (.int (Int32.ofInt (-1))), none]) rfl (Nat.le_of_ble_eq_true rfl) rfl ?_
      refine g_iload (i := 4) rfl rfl ?_
      refine g_iconst (n := (-1)) rfl ?_
      refine g_icmp_ne 43 rfl rfl (fun hc => absurd hc (by exact fun z => z rfl)) (fun _ => ?_)
      refine g_aload_n (i := 0) rfl rfl ?_
      refine g_aload_n (i := 0) rfl rfl ?_
      refine g_getfield (v := .int (Int32.ofNat (A + 1))) rfl r1 (by decide) rfl ?_
      refine g_virt1 (Qc := fun r h' => r = some (.int 0) ∧ h' = (h.set rp (rd tp flt (A + 1))).set rp (rd tp (Int32.ofNat (A + 1)) (A + 1))) rfl (by decide) rfl r1 rfl (Nat.le_of_ble_eq_true rfl) (sDo_up (d := 1) (by omega) (s_fails (d := 0) r1)) (fun r h8 hq9 => ?_)
      obtain ⟨rfl, rfl⟩ := hq9
      refine g_pop rfl rfl ?_
      refine g_iconst (n := (-1)) rfl ?_
      refine g_ireturn (ty := .int) rfl rfl rfl ?_
      exact ⟨rfl, A + 1, A + 1, by omega, setr _ _⟩
    | some dv =>
      obtain ⟨d9, -⟩ := dgS_lt hd
      have e1 : dgI (tx el n (A + 1)) = Int32.ofNat dv := by unfold dgI; rw [hd]
      rw [e1]
      have edv := ofN_toInt (n := dv) (by omega)
      have em1 : (Int32.ofInt (-1)).toInt = -1 := rfl
      refine g_istore (i := 4) (L1 := [some (.ref rp), some (.int lo), some (.int hi), some (.int (Int32.ofNat (A + 1))), some (.int (Int32.ofNat dv)), none]) rfl (Nat.le_of_ble_eq_true rfl) rfl ?_
      refine g_iload (i := 4) rfl rfl ?_
      refine g_iconst (n := (-1)) rfl ?_
      refine g_icmp_ne 43 rfl rfl (fun _ => ?_) (fun hc => absurd hc (by intro z; rw [z, em1] at edv; omega))
      refine g_aload_n (i := 0) rfl rfl ?_
      refine g_dup rfl rfl ?_
      refine g_getfield (v := .int (Int32.ofNat (A + 1))) rfl r1 (by decide) rfl ?_
      refine g_iconst (n := 1) rfl ?_
      refine g_iadd rfl ?_
      rw [ofN_add (by omega)]
      refine g_putfield (h1 := h.set rp (rd tp flt (A + 2))) rfl r1 (by decide) (Nat.le_of_ble_eq_true rfl) rfl (setr _ _) ?_
      have r2 := hrS (rd tp flt (A + 2))
      refine g_aload_n (i := 0) rfl rfl ?_
      refine g_aload_n (i := 0) rfl rfl ?_
      refine g_getfield (v := .int (Int32.ofNat (A + 2))) rfl r2 (by decide) rfl ?_
      refine g_virt1 (Qc := fun r h' => h' = h.set rp (rd tp flt (A + 2)) ∧ r = some (.int (dgI (tx el n (A + 2))))) rfl (by decide) rfl r2 rfl (Nat.le_of_ble_eq_true rfl) (sDo_up (d := 3) (by omega) (s_digitAt (d := 0) r2 (htS _) (heS _) hn (by omega) (ofN_toInt (n := A + 2) (by omega)))) (fun r h9 hq9 => ?_)
      obtain ⟨rfl, rfl⟩ := hq9
      cases hd2 : dgS (tx el n (A + 1 + 1)) with
      | none =>
        have e2 : dgI (tx el n (A + 2)) = Int32.ofInt (-1) := by unfold dgI; rw [hd2]
        rw [e2]
        refine g_istore (i := 5) (L1 := [some (.ref rp), some (.int lo), some (.int hi), some (.int (Int32.ofNat (A + 1))), some (.int (Int32.ofNat dv)), some (.int (Int32.ofInt (-1)))]) rfl (Nat.le_of_ble_eq_true rfl) rfl ?_
        refine g_iload (i := 5) rfl rfl ?_
        refine g_iconst (n := (-1)) rfl ?_
        refine g_icmp_eq 89 rfl rfl (fun _ => ?_) (fun hc => absurd hc (by exact fun z => z rfl))
        exact s_rnTail (v := dv) (A := A + 2) r2 (fun c => setr _ _) rfl (by omega) (by omega) rfl
      | some ev =>
        obtain ⟨d8, -⟩ := dgS_lt hd2
        have e2 : dgI (tx el n (A + 2)) = Int32.ofNat ev := by unfold dgI; rw [hd2]
        rw [e2]
        have eev := ofN_toInt (n := ev) (by omega)
        refine g_istore (i := 5) (L1 := [some (.ref rp), some (.int lo), some (.int hi), some (.int (Int32.ofNat (A + 1))), some (.int (Int32.ofNat dv)), some (.int (Int32.ofNat ev))]) rfl (Nat.le_of_ble_eq_true rfl) rfl ?_
        refine g_iload (i := 5) rfl rfl ?_
        refine g_iconst (n := (-1)) rfl ?_
        refine g_icmp_eq 89 rfl rfl (fun hc => absurd hc (by intro z; rw [z, em1] at eev; omega)) (fun _ => ?_)
        have e10 : (Int8.ofInt 10).toInt32.toInt = 10 := rfl
        have ee : (Int8.ofInt 10).toInt32 * Int32.ofNat dv + Int32.ofNat ev = Int32.ofNat (10 * dv + ev) := by
          apply Int32.toInt_inj.mp
          have m1 : ((Int8.ofInt 10).toInt32 * Int32.ofNat dv).toInt = 10 * dv := by rw [i_mul (by rw [e10, edv]; omega) (by rw [e10, edv]; omega), e10, edv]
          rw [i_add (by rw [m1, eev]; omega) (by rw [m1, eev]; omega), m1, eev, ofN_toInt (by omega)]
          omega
        refine g_bipush (n := 10) rfl ?_
        refine g_iload (i := 4) rfl rfl ?_
        refine g_imul rfl ?_
        refine g_iload (i := 5) rfl rfl ?_
        refine g_iadd rfl ?_
        rw [ee]
        refine g_istore (i := 4) (L1 := [some (.ref rp), some (.int lo), some (.int hi), some (.int (Int32.ofNat (A + 1))), some (.int (Int32.ofNat (10 * dv + ev))), some (.int (Int32.ofNat ev))]) rfl (Nat.le_of_ble_eq_true rfl) rfl ?_
        refine g_aload_n (i := 0) rfl rfl ?_
        refine g_dup rfl rfl ?_
        refine g_getfield (v := .int (Int32.ofNat (A + 2))) rfl r2 (by decide) rfl ?_
        refine g_iconst (n := 1) rfl ?_
        refine g_iadd rfl ?_
        rw [ofN_add (by omega)]
        refine g_putfield (h1 := h.set rp (rd tp flt (A + 3))) rfl r2 (by decide) (Nat.le_of_ble_eq_true rfl) rfl (setr _ _) ?_
        exact s_rnTail (v := 10 * dv + ev) (A := A + 3) (hrS _) (fun c => setr _ _) rfl (by omega) (by omega) rfl
  · skip
    refine g_aload_n (i := 0) rfl rfl ?_
    refine g_bipush (n := 32) rfl ?_
    refine g_virt1 (Qc := fun r h' => r = some (.int 0) ∧ h' = h.set rp (rd tp (Int32.ofNat A) A)) rfl (by decide) rfl hr rfl (Nat.le_of_ble_eq_true rfl) (sDo_up (d := 3) (by omega) (s_passesN (d := 0) hr ht he hn hA hb)) (fun r h9 hq9 => ?_)
    obtain ⟨rfl, rfl⟩ := hq9
    refine g_if_ne 11 rfl rfl (fun hc => absurd hc (by decide)) (fun _ => ?_)
    refine g_iconst (n := (-1)) rfl ?_
    refine g_ireturn (ty := .int) rfl rfl rfl ?_
    rw [if_neg hb]
    exact ⟨rfl, A, A, by omega, rfl⟩
