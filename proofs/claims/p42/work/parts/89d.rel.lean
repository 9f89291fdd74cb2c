/-! ===== texts: the reference's numbers ===== -/
/-- the reference's object: its ints by their places among the fields -/
def mO (J : Nat → Int32) : va_E := .inr (12, [.int (J 0), .int (J 1), .int (J 2), .int (J 3), .int (J 4), .int (J 5), .int (J 6), .int (J 7), .ref 61, .ref 62, .ref 63, .ref 64, .ref 65, .ref 66, .ref 67, .ref 68, .ref 69, .ref 70, .ref 71, .ref 72, .ref 73, .int (J 21), .int (J 22), .int (J 23), .int (J 24), .int (J 25), .ref 74, .ref 75, .int (J 28), .ref 76, .ref 77, .int (J 31), .int (J 32), .int (J 33), .int (J 34), .ref 78, .int (J 36), .int (J 37)])
/-- the text of shelf S before the reference -/
def RT (cl : Nat → Int64) (S n : Nat) (T : Nat → Int32) : Prop := S < 8 ∧ n ≤ 100 ∧ (∀ i, i < n → (cl (100 * S + i)).toInt32 = T i) ∧ ∀ i, n ≤ i → T i = 0
def rtJ (J : Nat → Int32) (S n A : Nat) : Prop := J 21 = Int32.ofNat (100 * S) ∧ J 22 = Int32.ofNat A ∧ J 23 = Int32.ofNat n
def jS (J J' : Nat → Int32) : Prop := ∀ j, j ≠ 22 → j ≠ 24 → j ≠ 25 → J' j = J j
theorem jS_rfl (J : Nat → Int32) : jS J J := fun _ _ _ _ => rfl
theorem jS_tr {J J1 J2 : Nat → Int32} (a : jS J J1) (b : jS J1 J2) : jS J J2 := fun j x y z => (b j x y z).trans (a j x y z)
theorem jS_up {J J1 : Nat → Int32} {k : Nat} {v : Int32} (a : jS J J1) (hk : k = 22 ∨ k = 24 ∨ k = 25) : jS J (upd J1 k v) := fun j x y z => (u_ne (by omega)).trans (a j x y z)
theorem dgS_0 : dgS 0 = none := by decide
theorem s_wrongE {d : Nat} {h : sHp} {J : Nat → Int32} {p : Int32} (hr : h[60]? = some (mO J)) : sDo (d + 1) 192 [.ref 60, .int p] h (fun r h' => r = some (.int 0) ∧ h' = h.set 60 (mO (upd J 25 p))) := by
  refine sDo_of (d := d) (nL := 2) (L := [some (.ref 60), some (.int p)]) rfl rfl ?_
  refine g_aload_n (i := 0) rfl rfl ?_
  refine g_iload_n (i := 1) rfl rfl ?_
  refine g_putfield (h1 := h.set 60 (mO (upd J 25 p))) rfl hr (by decide) (Nat.le_of_ble_eq_true rfl) rfl rfl ?_
  refine g_iconst (n := 0) rfl ?_
  refine g_ireturn (ty := .boolean) rfl rfl (by decide) ?_
  exact ⟨rfl, rfl⟩
def dgB (x : Int32) : Int32 := match dgS x with
  | some _ => 1
  | none => 0
theorem s_isDigit {d : Nat} {h : sHp} {J : Nat → Int32} {cl : Nat → Int64} {S n A : Nat} {T : Nat → Int32} (hr : h[60]? = some (mO J)) (a8 : h[71]? = some (.inl (1, 800, .inr (.inl cl)))) (R : RT cl S n T) (hJ : rtJ J S n A) (hA : A < 900) : sDo (d + 1) 194 [.ref 60] h (fun r h' => h' = h ∧ r = some (.int (dgB (T A)))) := by
  have eA := ofN_toInt (n := A) (by omega)
  obtain ⟨j21, j22, j23⟩ := hJ
  obtain ⟨R1, R2, R3, R4⟩ := R
  have en := ofN_toInt (n := n) (by omega)
  have e48 : (Int8.ofInt 48).toInt32.toInt = 48 := rfl
  have e57 : (Int8.ofInt 57).toInt32.toInt = 57 := rfl
  refine sDo_of (d := d) (nL := 1) (L := [some (.ref 60)]) rfl rfl ?_
  refine g_aload_n (i := 0) rfl rfl ?_
  refine g_getfield (v := .int (J 22)) rfl hr (by decide) rfl ?_
  refine g_aload_n (i := 0) rfl rfl ?_
  refine g_getfield (v := .int (J 23)) rfl hr (by decide) rfl ?_
  refine g_icmp_ge 55 rfl rfl (fun c1 => ?_) (fun c1 => ?_)
  · skip
    rw [j22, j23, i_le, en, eA] at c1
    refine g_iconst (n := 0) rfl ?_
    refine g_ireturn (ty := .boolean) rfl rfl (by decide) ?_
    exact ⟨rfl, by rw [R4 A (by omega)]; rfl⟩
  · skip
    rw [j22, j23, i_le, en, eA] at c1
    have eb : (Int32.ofNat (100 * S)).toInt = ((100 * S : Nat) : Int) := Int32.toInt_ofNat_of_lt (by omega)
    have eba : (Int32.ofNat (100 * S) + Int32.ofNat A).toInt = ((100 * S + A : Nat) : Int) := by rw [i_add (by rw [eb, eA]; omega) (by rw [eb, eA]; omega), eb, eA]; omega
    refine g_aload_n (i := 0) rfl rfl ?_
    refine g_getfield (v := .ref 71) rfl hr (by decide) rfl ?_
    refine g_aload_n (i := 0) rfl rfl ?_
    refine g_getfield (v := .int (J 21)) rfl hr (by decide) rfl ?_
    refine g_aload_n (i := 0) rfl rfl ?_
    refine g_getfield (v := .int (J 22)) rfl hr (by decide) rfl ?_
    refine g_iadd rfl ?_
    rw [j21, j22]
    refine g_laload (n := 800) (f := cl) rfl a8 (i_in (by omega) (by omega)) ?_
    rw [i_nat eba]
    refine g_l2i rfl ?_
    rw [R3 A (by omega)]
    refine g_bipush (n := 48) rfl ?_
    refine g_icmp_lt 55 rfl rfl (fun c2 => ?_) (fun c2 => ?_)
    · skip
      rw [i_lt, e48] at c2
      refine g_iconst (n := 0) rfl ?_
      refine g_ireturn (ty := .boolean) rfl rfl (by decide) ?_
      exact ⟨rfl, by unfold dgB dgS; rw [if_neg (by omega)]; rfl⟩
    · skip
      rw [i_lt, e48] at c2
      refine g_aload_n (i := 0) rfl rfl ?_
      refine g_getfield (v := .ref 71) rfl hr (by decide) rfl ?_
      refine g_aload_n (i := 0) rfl rfl ?_
      refine g_getfield (v := .int (J 21)) rfl hr (by decide) rfl ?_
      refine g_aload_n (i := 0) rfl rfl ?_
      refine g_getfield (v := .int (J 22)) rfl hr (by decide) rfl ?_
      refine g_iadd rfl ?_
      rw [j21, j22]
      refine g_laload (n := 800) (f := cl) rfl a8 (i_in (by omega) (by omega)) ?_
      rw [i_nat eba]
      refine g_l2i rfl ?_
      rw [R3 A (by omega)]
      refine g_bipush (n := 57) rfl ?_
      refine g_icmp_gt 55 rfl rfl (fun c3 => ?_) (fun c3 => ?_)
      · skip
        rw [i_lt, e57] at c3
        refine g_iconst (n := 0) rfl ?_
        refine g_ireturn (ty := .boolean) rfl rfl (by decide) ?_
        exact ⟨rfl, by unfold dgB dgS; rw [if_neg (by omega)]; rfl⟩
      · skip
        rw [i_lt, e57] at c3
        refine g_iconst (n := 1) rfl ?_
        refine g_goto 56 rfl rfl ?_
        refine g_ireturn (ty := .boolean) rfl rfl (by decide) ?_
        exact ⟨rfl, by unfold dgB dgS; rw [if_pos (by omega)]; rfl⟩
def qMu (h : sHp) (J : Nat → Int32) (q : Option (Nat × Nat)) (r : Option Value) (h' : sHp) : Prop := ∃ J', h' = h.set 60 (mO J') ∧ jS J J' ∧ (match q with
  | some (v, A') => r = some (.int 1) ∧ J' 24 = Int32.ofNat v ∧ J' 22 = Int32.ofNat A'
  | none => r = some (.int 0))
theorem s_nuTail {d : Nat} {h0 h : sHp} {J0 J : Nat → Int32} {A v : Nat} {p lo hi : Int32} {q : Option (Nat × Nat)} (hr : h[60]? = some (mO J)) (hh : h = h0.set 60 (mO J)) (h0r : ∀ c, h.set 60 c = h0.set 60 c) (js : jS J0 J) (j24 : J 24 = Int32.ofNat v) (j22 : J 22 = Int32.ofNat A) (hv : v < 900) (hq : q = if lo.toInt ≤ v ∧ (v : Int) ≤ hi.toInt then some (v, A) else none) : sGo none 195 (d + 1) 100 [some (.ref 60), some (.int lo), some (.int hi), some (.int p)] [] h (qMu h0 J0 q) := by
  have ev := ofN_toInt (n := v) (by omega)
  refine g_aload_n (i := 0) rfl rfl ?_
  refine g_getfield (v := .int (J 24)) rfl hr (by decide) rfl ?_
  refine g_iload_n (i := 1) rfl rfl ?_
  refine g_icmp_lt 116 rfl rfl (fun c1 => ?_) (fun c1 => ?_)
  · skip
    rw [j24, i_lt, ev] at c1
    refine g_aload_n (i := 0) rfl rfl ?_
    refine g_iload_n (i := 3) rfl rfl ?_
    refine g_virt1 (Qc := fun r h' => r = some (.int 0) ∧ h' = List.set h 60 (mO (upd J 25 p))) rfl (by decide) rfl hr rfl (Nat.le_of_ble_eq_true rfl) (sDo_up (d := 1) (by omega) (s_wrongE (d := 0) hr)) (fun r h8 hq9 => ?_)
    obtain ⟨rfl, rfl⟩ := hq9
    refine g_if_eq 128 rfl rfl (fun _ => ?_) (fun hc => absurd hc (by decide))
    refine g_iconst (n := 0) rfl ?_
    refine g_ireturn (ty := .boolean) rfl rfl (by decide) ?_
    rw [hq, if_neg (by omega)]
    exact ⟨_, h0r _, jS_up js (by omega), rfl⟩
  · skip
    rw [j24, i_lt, ev] at c1
    refine g_aload_n (i := 0) rfl rfl ?_
    refine g_getfield (v := .int (J 24)) rfl hr (by decide) rfl ?_
    refine g_iload_n (i := 2) rfl rfl ?_
    refine g_icmp_le 124 rfl rfl (fun c2 => ?_) (fun c2 => ?_)
    · skip
      rw [j24, i_le, ev] at c2
      refine g_iconst (n := 1) rfl ?_
      refine g_goto 129 rfl rfl ?_
      refine g_ireturn (ty := .boolean) rfl rfl (by decide) ?_
      rw [hq, if_pos (by omega)]
      exact ⟨J, hh, js, rfl, j24, j22⟩
    · skip
      rw [j24, i_le, ev] at c2
      refine g_aload_n (i := 0) rfl rfl ?_
      refine g_iload_n (i := 3) rfl rfl ?_
      refine g_virt1 (Qc := fun r h' => r = some (.int 0) ∧ h' = List.set h 60 (mO (upd J 25 p))) rfl (by decide) rfl hr rfl (Nat.le_of_ble_eq_true rfl) (sDo_up (d := 1) (by omega) (s_wrongE (d := 0) hr)) (fun r h8 hq9 => ?_)
      obtain ⟨rfl, rfl⟩ := hq9
      refine g_if_eq 128 rfl rfl (fun _ => ?_) (fun hc => absurd hc (by decide))
      refine g_iconst (n := 0) rfl ?_
      refine g_ireturn (ty := .boolean) rfl rfl (by decide) ?_
      rw [hq, if_neg (by omega)]
      exact ⟨_, h0r _, jS_up js (by omega), rfl⟩
theorem s_number {d : Nat} {h : sHp} {J : Nat → Int32} {cl : Nat → Int64} {S n A : Nat} {T : Nat → Int32} {lo hi : Int32} (hr : h[60]? = some (mO J)) (a8 : h[71]? = some (.inl (1, 800, .inr (.inl cl)))) (R : RT cl S n T) (hJ : rtJ J S n A) (hA : A < 900) : sDo (d + 2) 195 [.ref 60, .int lo, .int hi] h (qMu h J (numS T A lo.toInt hi.toInt)) := by
  have eA := ofN_toInt (n := A) (by omega)
  have eA1 := ofN_toInt (n := A + 1) (by omega)
  have hJc := hJ
  have Rc := R
  obtain ⟨j21, j22, j23⟩ := hJ
  obtain ⟨R1, R2, R3, R4⟩ := R
  have e48 : (Int8.ofInt 48).toInt32.toInt = 48 := rfl
  have e10 : (Int8.ofInt 10).toInt32.toInt = 10 := rfl
  have setr : ∀ (c c' : va_E), (h.set 60 c).set 60 c' = h.set 60 c' := fun c c' => List.set_set ..
  have a8S : ∀ c, (h.set 60 c)[71]? = some (.inl (1, 800, .inr (.inl cl))) := fun c => by rw [s_set_ne (by decide)]; exact a8
  have hrS : ∀ c, (h.set 60 c)[60]? = some c := fun c => s_set_eq hr
  unfold numS
  refine sDo_of (d := d + 1) (nL := 4) (L := [some (.ref 60), some (.int lo), some (.int hi), none]) rfl rfl ?_
  refine g_aload_n (i := 0) rfl rfl ?_
  refine g_getfield (v := .int (J 22)) rfl hr (by decide) rfl ?_
  refine g_istore_n (i := 3) (L1 := [some (.ref 60), some (.int lo), some (.int hi), some (.int (J 22))]) rfl (Nat.le_of_ble_eq_true rfl) rfl ?_
  refine g_aload_n (i := 0) rfl rfl ?_
  refine g_virt0 (Qc := fun r h' => h' = h ∧ r = some (.int (dgB (T A)))) rfl (by decide) rfl hr rfl (Nat.le_of_ble_eq_true rfl) (sDo_up (d := 1) (by omega) (s_isDigit (d := 0) hr a8 Rc hJc hA)) (fun r h9 hq => ?_)
  obtain ⟨rfl, rfl⟩ := hq
  cases hd : dgS (T A) with
  | none =>
    rw [show dgB (T A) = 0 by unfold dgB; rw [hd]]
    refine g_if_ne 21 rfl rfl (fun hc => absurd hc (by decide)) (fun _ => ?_)
    refine g_aload_n (i := 0) rfl rfl ?_
    refine g_aload_n (i := 0) rfl rfl ?_
    refine g_getfield (v := .int (J 22)) rfl hr (by decide) rfl ?_
    refine g_virt1 (Qc := fun r h' => r = some (.int 0) ∧ h' = List.set h9 60 (mO (upd J 25 (J 22)))) rfl (by decide) rfl hr rfl (Nat.le_of_ble_eq_true rfl) (sDo_up (d := 1) (by omega) (s_wrongE (d := 0) hr)) (fun r h8 hq9 => ?_)
    obtain ⟨rfl, rfl⟩ := hq9
    refine g_ireturn (ty := .boolean) rfl rfl (by decide) ?_
    exact ⟨_, rfl, jS_up (jS_rfl J) (by omega), rfl⟩
  | some dv =>
    obtain ⟨d9, dx1, dx2, dx3⟩ := dgS_lt hd
    rw [show dgB (T A) = 1 by unfold dgB; rw [hd]]
    have hAn : A < n := by
      by_cases c : A < n
      · exact c
      · rw [R4 A (by omega)] at dx1
        exact absurd dx1 (by decide)
    refine g_if_ne 21 rfl rfl (fun _ => ?_) (fun hc => absurd hc (by decide))
    have eb : (Int32.ofNat (100 * S)).toInt = ((100 * S : Nat) : Int) := Int32.toInt_ofNat_of_lt (by omega)
    have eba : (Int32.ofNat (100 * S) + Int32.ofNat A).toInt = ((100 * S + A : Nat) : Int) := by rw [i_add (by rw [eb, eA]; omega) (by rw [eb, eA]; omega), eb, eA]; omega
    refine g_aload_n (i := 0) rfl rfl ?_
    refine g_aload_n (i := 0) rfl rfl ?_
    refine g_getfield (v := .ref 71) rfl hr (by decide) rfl ?_
    refine g_aload_n (i := 0) rfl rfl ?_
    refine g_getfield (v := .int (J 21)) rfl hr (by decide) rfl ?_
    refine g_aload_n (i := 0) rfl rfl ?_
    refine g_getfield (v := .int (J 22)) rfl hr (by decide) rfl ?_
    refine g_iadd rfl ?_
    rw [j21, j22]
    refine g_laload (n := 800) (f := cl) rfl a8 (i_in (by omega) (by omega)) ?_
    rw [i_nat eba]
    refine g_l2i rfl ?_
    rw [R3 A (by omega)]
    refine g_bipush (n := 48) rfl ?_
    refine g_isub rfl ?_
    have es : T A - (Int8.ofInt 48).toInt32 = Int32.ofNat dv := Int32.toInt_inj.mp (by rw [i_sub (by rw [e48]; omega) (by rw [e48]; omega), e48, ofN_toInt (by omega)]; omega)
    rw [es]
    refine g_putfield (h1 := h9.set 60 (mO (upd J 24 (Int32.ofNat dv)))) rfl hr (by decide) (Nat.le_of_ble_eq_true rfl) rfl rfl ?_
    refine g_aload_n (i := 0) rfl rfl ?_
    refine g_dup rfl rfl ?_
    refine g_getfield (v := .int ((upd J 24 (Int32.ofNat dv)) 22)) rfl (hrS _) (by decide) rfl ?_
    refine g_iconst (n := 1) rfl ?_
    refine g_iadd rfl ?_
    rw [show (upd J 24 (Int32.ofNat dv)) 22 = Int32.ofNat A from j22, ofN_add (by omega)]
    refine g_putfield (h1 := h9.set 60 (mO (upd (upd J 24 (Int32.ofNat dv)) 22 (Int32.ofNat (A + 1))))) rfl (hrS _) (by decide) (Nat.le_of_ble_eq_true rfl) rfl (setr _ _) ?_
    have js2 : jS J (upd (upd J 24 (Int32.ofNat dv)) 22 (Int32.ofNat (A + 1))) := jS_up (jS_up (jS_rfl J) (by omega)) (by omega)
    have rt2 : rtJ (upd (upd J 24 (Int32.ofNat dv)) 22 (Int32.ofNat (A + 1))) S n (A + 1) := ⟨j21, rfl, j23⟩
    refine g_aload_n (i := 0) rfl rfl ?_
    refine g_virt0 (Qc := fun r h' => h' = h9.set 60 (mO (upd (upd J 24 (Int32.ofNat dv)) 22 (Int32.ofNat (A + 1)))) ∧ r = some (.int (dgB (T (A + 1))))) rfl (by decide) rfl (hrS _) rfl (Nat.le_of_ble_eq_true rfl) (sDo_up (d := 1) (by omega) (s_isDigit (d := 0) (hrS _) (a8S _) Rc rt2 (by omega))) (fun r h8 hq => ?_)
    obtain ⟨rfl, rfl⟩ := hq
    cases hd2 : dgS (T (A + 1)) with
    | none =>
      rw [show dgB (T (A + 1)) = 0 by unfold dgB; rw [hd2]]
      refine g_if_eq 100 rfl rfl (fun _ => ?_) (fun hc => absurd hc (by decide))
      exact s_nuTail (v := dv) (A := A + 1) (hrS _) rfl (fun c => setr _ _) js2 rfl rfl (by omega) rfl
    | some ev =>
      obtain ⟨d8, ex1, ex2, ex3⟩ := dgS_lt hd2
      rw [show dgB (T (A + 1)) = 1 by unfold dgB; rw [hd2]]
      have hAn1 : A + 1 < n := by
        by_cases c : A + 1 < n
        · exact c
        · rw [R4 (A + 1) (by omega)] at ex1
          exact absurd ex1 (by decide)
      have edv := ofN_toInt (n := dv) (by omega)
      have eba1 : (Int32.ofNat (100 * S) + Int32.ofNat (A + 1)).toInt = ((100 * S + (A + 1) : Nat) : Int) := by rw [i_add (by rw [eb, eA1]; omega) (by rw [eb, eA1]; omega), eb, eA1]; omega
      refine g_if_eq 100 rfl rfl (fun hc => absurd hc (by decide)) (fun _ => ?_)
      refine g_aload_n (i := 0) rfl rfl ?_
      refine g_bipush (n := 10) rfl ?_
      refine g_aload_n (i := 0) rfl rfl ?_
      refine g_getfield (v := .int ((upd (upd J 24 (Int32.ofNat dv)) 22 (Int32.ofNat (A + 1))) 24)) rfl (hrS _) (by decide) rfl ?_
      refine g_imul rfl ?_
      refine g_aload_n (i := 0) rfl rfl ?_
      refine g_getfield (v := .ref 71) rfl (hrS _) (by decide) rfl ?_
      refine g_aload_n (i := 0) rfl rfl ?_
      refine g_getfield (v := .int ((upd (upd J 24 (Int32.ofNat dv)) 22 (Int32.ofNat (A + 1))) 21)) rfl (hrS _) (by decide) rfl ?_
      refine g_aload_n (i := 0) rfl rfl ?_
      refine g_getfield (v := .int ((upd (upd J 24 (Int32.ofNat dv)) 22 (Int32.ofNat (A + 1))) 22)) rfl (hrS _) (by decide) rfl ?_
      refine g_iadd rfl ?_
      rw [show (upd (upd J 24 (Int32.ofNat dv)) 22 (Int32.ofNat (A + 1))) 21 = Int32.ofNat (100 * S) from j21, show (upd (upd J 24 (Int32.ofNat dv)) 22 (Int32.ofNat (A + 1))) 22 = Int32.ofNat (A + 1) from rfl]
      refine g_laload (n := 800) (f := cl) rfl (a8S _) (i_in (by omega) (by omega)) ?_
      rw [i_nat eba1]
      refine g_l2i rfl ?_
      rw [R3 (A + 1) (by omega), show (upd (upd J 24 (Int32.ofNat dv)) 22 (Int32.ofNat (A + 1))) 24 = Int32.ofNat dv from rfl]
      refine g_iadd rfl ?_
      refine g_bipush (n := 48) rfl ?_
      refine g_isub rfl ?_
      have m1 : ((Int8.ofInt 10).toInt32 * Int32.ofNat dv).toInt = 10 * dv := by rw [i_mul (by rw [e10, edv]; omega) (by rw [e10, edv]; omega), e10, edv]
      have m2 : ((Int8.ofInt 10).toInt32 * Int32.ofNat dv + T (A + 1)).toInt = 10 * dv + (T (A + 1)).toInt := by rw [i_add (by rw [m1]; omega) (by rw [m1]; omega), m1]
      have ee : (Int8.ofInt 10).toInt32 * Int32.ofNat dv + T (A + 1) - (Int8.ofInt 48).toInt32 = Int32.ofNat (10 * dv + ev) := Int32.toInt_inj.mp (by rw [i_sub (by rw [m2, e48]; omega) (by rw [m2, e48]; omega), m2, e48, ofN_toInt (by omega)]; omega)
      rw [ee]
      refine g_putfield (h1 := h9.set 60 (mO (upd (upd (upd J 24 (Int32.ofNat dv)) 22 (Int32.ofNat (A + 1))) 24 (Int32.ofNat (10 * dv + ev))))) rfl (hrS _) (by decide) (Nat.le_of_ble_eq_true rfl) rfl (setr _ _) ?_
      refine g_aload_n (i := 0) rfl rfl ?_
      refine g_dup rfl rfl ?_
      refine g_getfield (v := .int ((upd (upd (upd J 24 (Int32.ofNat dv)) 22 (Int32.ofNat (A + 1))) 24 (Int32.ofNat (10 * dv + ev))) 22)) rfl (hrS _) (by decide) rfl ?_
      refine g_iconst (n := 1) rfl ?_
      refine g_iadd rfl ?_
      rw [show (upd (upd (upd J 24 (Int32.ofNat dv)) 22 (Int32.ofNat (A + 1))) 24 (Int32.ofNat (10 * dv + ev))) 22 = Int32.ofNat (A + 1) from rfl, ofN_add (by omega)]
      refine g_putfield (h1 := h9.set 60 (mO (upd (upd (upd (upd J 24 (Int32.ofNat dv)) 22 (Int32.ofNat (A + 1))) 24 (Int32.ofNat (10 * dv + ev))) 22 (Int32.ofNat (A + 2))))) rfl (hrS _) (by decide) (Nat.le_of_ble_eq_true rfl) rfl (setr _ _) ?_
      exact s_nuTail (v := 10 * dv + ev) (A := A + 2) (hrS _) rfl (fun c => setr _ _) (jS_up (jS_up js2 (by omega)) (by omega)) rfl rfl (by omega) rfl
theorem s_next {d : Nat} {h : sHp} {J : Nat → Int32} {cl : Nat → Int64} {S n A : Nat} {T : Nat → Int32} {lo hi : Int32} (hr : h[60]? = some (mO J)) (a8 : h[71]? = some (.inl (1, 800, .inr (.inl cl)))) (R : RT cl S n T) (hJ : rtJ J S n A) (hA : A < 899) : sDo (d + 3) 196 [.ref 60, .int lo, .int hi] h (qMu h J (nxtS T A lo.toInt hi.toInt)) := by
  have eA := ofN_toInt (n := A) (by omega)
  have hJc := hJ
  have Rc := R
  obtain ⟨j21, j22, j23⟩ := hJ
  obtain ⟨R1, R2, R3, R4⟩ := R
  have en := ofN_toInt (n := n) (by omega)
  unfold nxtS
  refine sDo_of (d := d + 2) (nL := 3) (L := [some (.ref 60), some (.int lo), some (.int hi)]) rfl rfl ?_
  refine g_aload_n (i := 0) rfl rfl ?_
  refine g_getfield (v := .int (J 22)) rfl hr (by decide) rfl ?_
  refine g_aload_n (i := 0) rfl rfl ?_
  refine g_getfield (v := .int (J 23)) rfl hr (by decide) rfl ?_
  refine g_icmp_ge 31 rfl rfl (fun c1 => ?_) (fun c1 => ?_)
  · skip
    rw [j22, j23, i_le, en, eA] at c1
    rw [if_neg (show ¬ T A = 32 by rw [R4 A (by omega)]; decide)]
    refine g_aload_n (i := 0) rfl rfl ?_
    refine g_aload_n (i := 0) rfl rfl ?_
    refine g_getfield (v := .int (J 22)) rfl hr (by decide) rfl ?_
    refine g_virt1 (Qc := fun r h' => r = some (.int 0) ∧ h' = List.set h 60 (mO (upd J 25 (J 22)))) rfl (by decide) rfl hr rfl (Nat.le_of_ble_eq_true rfl) (sDo_up (d := 1) (by omega) (s_wrongE (d := 0) hr)) (fun r h8 hq9 => ?_)
    obtain ⟨rfl, rfl⟩ := hq9
    refine g_ireturn (ty := .boolean) rfl rfl (by decide) ?_
    exact ⟨_, rfl, jS_up (jS_rfl J) (by omega), rfl⟩
  · skip
    rw [j22, j23, i_le, en, eA] at c1
    have eb : (Int32.ofNat (100 * S)).toInt = ((100 * S : Nat) : Int) := Int32.toInt_ofNat_of_lt (by omega)
    have eba : (Int32.ofNat (100 * S) + Int32.ofNat A).toInt = ((100 * S + A : Nat) : Int) := by rw [i_add (by rw [eb, eA]; omega) (by rw [eb, eA]; omega), eb, eA]; omega
    refine g_aload_n (i := 0) rfl rfl ?_
    refine g_getfield (v := .ref 71) rfl hr (by decide) rfl ?_
    refine g_aload_n (i := 0) rfl rfl ?_
    refine g_getfield (v := .int (J 21)) rfl hr (by decide) rfl ?_
    refine g_aload_n (i := 0) rfl rfl ?_
    refine g_getfield (v := .int (J 22)) rfl hr (by decide) rfl ?_
    refine g_iadd rfl ?_
    rw [j21, j22]
    refine g_laload (n := 800) (f := cl) rfl a8 (i_in (by omega) (by omega)) ?_
    rw [i_nat eba]
    refine g_l2i rfl ?_
    rw [R3 A (by omega)]
    refine g_bipush (n := 32) rfl ?_
    refine g_icmp_eq 40 rfl rfl (fun c2 => ?_) (fun c2 => ?_)
    · skip
      rw [if_pos (show T A = 32 from c2)]
      refine g_aload_n (i := 0) rfl rfl ?_
      refine g_dup rfl rfl ?_
      refine g_getfield (v := .int (J 22)) rfl hr (by decide) rfl ?_
      refine g_iconst (n := 1) rfl ?_
      refine g_iadd rfl ?_
      rw [j22, ofN_add (by omega)]
      refine g_putfield (h1 := h.set 60 (mO (upd J 22 (Int32.ofNat (A + 1))))) rfl hr (by decide) (Nat.le_of_ble_eq_true rfl) rfl rfl ?_
      refine g_aload_n (i := 0) rfl rfl ?_
      refine g_iload_n (i := 1) rfl rfl ?_
      refine g_iload_n (i := 2) rfl rfl ?_
      have hnu := s_number (d := 0) (lo := lo) (hi := hi) (A := A + 1) (s_set_eq hr : (h.set 60 (mO (upd J 22 (Int32.ofNat (A + 1)))))[60]? = _) (by rw [s_set_ne (by decide)]; exact a8) Rc ⟨j21, rfl, j23⟩ (by omega)
      refine g_virt2 rfl (by decide) rfl (s_set_eq hr) rfl (Nat.le_of_ble_eq_true rfl) (sDo_up (d := 2) (by omega) hnu) (fun r h9 hq => ?_)
      obtain ⟨J', rfl, js, hq⟩ := hq
      have fin : ∀ b : Int32, r = some (.int b) → qMu h J (numS T (A + 1) lo.toInt hi.toInt) r ((h.set 60 (mO (upd J 22 (Int32.ofNat (A + 1))))).set 60 (mO J')) := fun b _ => ⟨J', List.set_set .., jS_tr (jS_up (jS_rfl J) (by omega)) js, hq⟩
      have hb : r = some (.int 0) ∨ r = some (.int 1) := by
        split at hq
        · exact Or.inr hq.1
        · exact Or.inl hq
      rcases hb with rfl | rfl
      · refine g_ireturn (ty := .boolean) rfl rfl (by decide) ?_
        exact fin _ rfl
      · refine g_ireturn (ty := .boolean) rfl rfl (by decide) ?_
        exact fin _ rfl
    · skip
      rw [if_neg (show ¬ T A = 32 from c2)]
      refine g_aload_n (i := 0) rfl rfl ?_
      refine g_aload_n (i := 0) rfl rfl ?_
      refine g_getfield (v := .int (J 22)) rfl hr (by decide) rfl ?_
      refine g_virt1 (Qc := fun r h' => r = some (.int 0) ∧ h' = List.set h 60 (mO (upd J 25 (J 22)))) rfl (by decide) rfl hr rfl (Nat.le_of_ble_eq_true rfl) (sDo_up (d := 1) (by omega) (s_wrongE (d := 0) hr)) (fun r h8 hq9 => ?_)
      obtain ⟨rfl, rfl⟩ := hq9
      refine g_ireturn (ty := .boolean) rfl rfl (by decide) ?_
      exact ⟨_, rfl, jS_up (jS_rfl J) (by omega), rfl⟩
