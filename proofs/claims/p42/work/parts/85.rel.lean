/-! ===== texts: the word that stands ===== -/
def wdS (T : Nat → Int32) (p : Nat) : Nat → Nat → Option Nat
  | 0, _ => none
  | f + 1, v => if alS T p v (wlS v) 0 = wlS v then some v else wdS T p f (v + 1)
def qWord (rp tp : Nat) (flt : Int32) (A : Nat) (h : sHp) (q : Option Nat) (r : Option Value) (h' : sHp) : Prop := match q with
  | some v => r = some (.int (Int32.ofNat v)) ∧ h' = h.set rp (rd tp flt (A + wlS v))
  | none => r = some (.int (Int32.ofInt (-1))) ∧ ∃ F A' : Nat, F < 999 ∧ h' = h.set rp (rd tp (Int32.ofNat F) A')
theorem s_readWord_go {d : Nat} {h : sHp} {rp tp ep n A Wn : Nat} {ot flt : Int32} {el : Nat → Int64} (hr : h[rp]? = some (rd tp flt A)) (ht : h[tp]? = some (.inr (7, [.int ot, .int (Int32.ofNat n), .ref ep]))) (he : h[ep]? = some (.inl (1, 100, .inr (.inl el)))) (hn : n ≤ 100) (hA : A < 990) (hW : Wn ≤ 7) (hd : 5 ≤ d) : ∀ (f v F : Nat) (o4 o5 : Option Value), f + v = Wn → F ≤ 5 → sGo none 70 d 23 [some (.ref rp), some (.int (Int32.ofNat Wn)), some (.int (Int32.ofNat F)), some (.int (Int32.ofNat v)), o4, o5] [] h (qWord rp tp flt A h (wdS (tx el n) A f v)) := by
  have eA := ofN_toInt (n := A) (by omega)
  have eW := ofN_toInt (n := Wn) (by omega)
  intro f
  induction f with
  | zero =>
    intro v F o4 o5 hv hF
    have ev := ofN_toInt (n := v) (by omega)
    have eF := ofN_toInt (n := F) (by omega)
    refine g_iload_n (i := 3) rfl rfl ?_
    refine g_iload_n (i := 1) rfl rfl ?_
    refine g_icmp_ge 78 rfl rfl (fun _ => ?_) (fun hc => absurd hc (by rw [i_le, eW, ev]; omega))
    refine g_aload_n (i := 0) rfl rfl ?_
    refine g_aload_n (i := 0) rfl rfl ?_
    refine g_getfield (v := .int (Int32.ofNat A)) rfl hr (by decide) rfl ?_
    refine g_iload_n (i := 2) rfl rfl ?_
    refine g_iadd rfl ?_
    have ee : Int32.ofNat A + Int32.ofNat F = Int32.ofNat (A + F) := by
      apply Int32.toInt_inj.mp
      rw [i_add (by rw [eA, eF]; omega) (by rw [eA, eF]; omega), eA, eF, ofN_toInt (by omega)]
      omega
    rw [ee]
    refine g_virt1 (Qc := fun r h' => r = some (.int 0) ∧ h' = h.set rp (rd tp (Int32.ofNat (A + F)) A)) rfl (by decide) rfl hr rfl (Nat.le_of_ble_eq_true rfl) (sDo_up (d := 1) (by omega) (s_fails (d := 0) hr)) (fun r h8 hq9 => ?_)
    obtain ⟨rfl, rfl⟩ := hq9
    refine g_pop rfl rfl ?_
    refine g_iconst (n := (-1)) rfl ?_
    refine g_ireturn (ty := .int) rfl rfl rfl ?_
    exact ⟨rfl, A + F, A, by omega, rfl⟩
  | succ f ih =>
    intro v F o4 o5 hv hF
    have ev := ofN_toInt (n := v) (by omega)
    have eF := ofN_toInt (n := F) (by omega)
    have wl := wlS_le v
    have al := alS_le (tx el n) A v (wlS v) 0
    have ea := ofN_toInt (n := alS (tx el n) A v (wlS v) 0) (by omega)
    have ew := ofN_toInt (n := wlS v) (by omega)
    refine g_iload_n (i := 3) rfl rfl ?_
    refine g_iload_n (i := 1) rfl rfl ?_
    refine g_icmp_ge 78 rfl rfl (fun hc => absurd hc (by rw [i_le, eW, ev]; omega)) (fun _ => ?_)
    refine g_iload_n (i := 3) rfl rfl ?_
    refine g_static1 (Qc := fun r h' => h' = h ∧ r = some (.ref (2000000 + v))) rfl (by decide) rfl (Nat.le_of_ble_eq_true rfl) (sDo_up (d := 1) (by omega) (s_wordOf (d := 0) (by omega))) (fun r h9 hq9 => ?_)
    obtain ⟨rfl, rfl⟩ := hq9
    refine g_astore (i := 4) (L1 := [some (.ref rp), some (.int (Int32.ofNat Wn)), some (.int (Int32.ofNat F)), some (.int (Int32.ofNat v)), some (.ref (2000000 + v)), o5]) rfl (Nat.le_of_ble_eq_true rfl) rfl ?_
    refine g_aload_n (i := 0) rfl rfl ?_
    refine g_aload (i := 4) rfl rfl ?_
    refine g_virt1 (Qc := fun r h' => h' = h9 ∧ r = some (.int (Int32.ofNat (alS (tx el n) A v (wlS v) 0)))) rfl (by decide) rfl hr rfl (Nat.le_of_ble_eq_true rfl) (sDo_up (d := 5) (by omega) (s_lettersAlike (d := 4) hr ht he hn hA (by omega) (Nat.le_refl _))) (fun r h8 hq9 => ?_)
    obtain ⟨rfl, rfl⟩ := hq9
    refine g_istore (i := 5) (L1 := [some (.ref rp), some (.int (Int32.ofNat Wn)), some (.int (Int32.ofNat F)), some (.int (Int32.ofNat v)), some (.ref (2000000 + v)), some (.int (Int32.ofNat (alS (tx el n) A v (wlS v) 0)))]) rfl (Nat.le_of_ble_eq_true rfl) rfl ?_
    refine g_iload (i := 5) rfl rfl ?_
    refine g_aload (i := 4) rfl rfl ?_
    refine g_len rfl (by omega) (Nat.le_of_ble_eq_true rfl) (by omega) rfl ?_
    unfold wdS
    refine g_icmp_ne 65 rfl rfl (fun c1 => ?_) (fun c1 => ?_)
    · skip
      rw [if_neg (fun z => c1 (congrArg Int32.ofNat z))]
      refine g_iload_n (i := 2) rfl rfl ?_
      refine g_iload (i := 5) rfl rfl ?_
      refine g_max rfl (Nat.le_of_ble_eq_true rfl) ?_
      obtain ⟨F', hF', eF'⟩ : ∃ F' : Nat, F' ≤ 5 ∧ (if Int32.ofNat F < Int32.ofNat (alS (tx el n) A v (wlS v) 0) then Int32.ofNat (alS (tx el n) A v (wlS v) 0) else Int32.ofNat F) = Int32.ofNat F' := by
        split
        · exact ⟨_, by omega, rfl⟩
        · exact ⟨F, hF, rfl⟩
      rw [eF']
      refine g_istore_n (i := 2) (L1 := [some (.ref rp), some (.int (Int32.ofNat Wn)), some (.int (Int32.ofNat F')), some (.int (Int32.ofNat v)), some (.ref (2000000 + v)), some (.int (Int32.ofNat (alS (tx el n) A v (wlS v) 0)))]) rfl (Nat.le_of_ble_eq_true rfl) rfl ?_
      refine g_iinc (i := 3) (L1 := [some (.ref rp), some (.int (Int32.ofNat Wn)), some (.int (Int32.ofNat F')), some (.int ((Int32.ofNat v) + Int32.ofInt 1)), some (.ref (2000000 + v)), some (.int (Int32.ofNat (alS (tx el n) A v (wlS v) 0)))]) rfl rfl rfl ?_
      rw [ofN_add (by omega)]
      refine g_goto 23 rfl rfl ?_
      exact ih (v + 1) F' _ _ (by omega) hF'
    · skip
      have c2 : alS (tx el n) A v (wlS v) 0 = wlS v := by
        have := congrArg Int32.toInt c1
        rw [ea, ew] at this
        omega
      rw [if_pos c2]
      refine g_aload_n (i := 0) rfl rfl ?_
      refine g_dup rfl rfl ?_
      refine g_getfield (v := .int (Int32.ofNat A)) rfl hr (by decide) rfl ?_
      refine g_iload (i := 5) rfl rfl ?_
      have ee : Int32.ofNat A + Int32.ofNat (alS (tx el n) A v (wlS v) 0) = Int32.ofNat (A + wlS v) := by
        apply Int32.toInt_inj.mp
        rw [i_add (by rw [eA, ea]; omega) (by rw [eA, ea]; omega), eA, ea, ofN_toInt (by omega), c2]
        omega
      refine g_iadd rfl ?_
      rw [ee]
      refine g_putfield (h1 := h8.set rp (rd tp flt (A + wlS v))) rfl hr (by decide) (Nat.le_of_ble_eq_true rfl) rfl rfl ?_
      refine g_iload_n (i := 3) rfl rfl ?_
      refine g_ireturn (ty := .int) rfl rfl rfl ?_
      exact ⟨rfl, rfl⟩
theorem s_readWord {d : Nat} {h : sHp} {rp tp ep n A H : Nat} {ot flt : Int32} {el : Nat → Int64} {fs : List Value} (hr : h[rp]? = some (rd tp flt A)) (ht : h[tp]? = some (.inr (7, [.int ot, .int (Int32.ofNat n), .ref ep]))) (he : h[ep]? = some (.inl (1, 100, .inr (.inl el)))) (hn : n ≤ 100) (hA : A < 990) (hf : h[27]? = some (.inr (3, fs))) (f11 : fs[11]? = some (.int (Int32.ofNat H))) (hH : H ≤ 5) : sDo (d + 6) 70 [.ref rp] h (qWord rp tp flt A h (wdS (tx el n) A (if H < 5 then 7 else 6) 0)) := by
  have eH := ofN_toInt (n := H) (by omega)
  have e5 : (Int32.ofInt 5).toInt = 5 := rfl
  refine sDo_of (d := d + 5) (nL := 6) (L := [some (.ref rp), none, none, none, none, none]) rfl rfl ?_
  refine g_aload_n (i := 0) rfl rfl ?_
  refine g_getfield (v := .ref 27) rfl hr (by decide) rfl ?_
  refine g_getfield (v := .int (Int32.ofNat H)) rfl hf (by decide) f11 ?_
  refine g_iconst (n := 5) rfl ?_
  by_cases h5 : H < 5
  · skip
    rw [if_pos h5]
    refine g_icmp_ge 16 rfl rfl (fun hc => absurd hc (by rw [i_le, eH, e5]; omega)) (fun _ => ?_)
    refine g_bipush (n := 7) rfl ?_
    refine g_goto 18 rfl rfl ?_
    refine g_istore_n (i := 1) (L1 := [some (.ref rp), some (.int (Int8.ofInt 7).toInt32), none, none, none, none]) rfl (Nat.le_of_ble_eq_true rfl) rfl ?_
    refine g_iconst (n := 0) rfl ?_
    refine g_istore_n (i := 2) (L1 := [some (.ref rp), some (.int (Int8.ofInt 7).toInt32), some (.int (Int32.ofInt 0)), none, none, none]) rfl (Nat.le_of_ble_eq_true rfl) rfl ?_
    refine g_iconst (n := 0) rfl ?_
    refine g_istore_n (i := 3) (L1 := [some (.ref rp), some (.int (Int8.ofInt 7).toInt32), some (.int (Int32.ofInt 0)), some (.int (Int32.ofInt 0)), none, none]) rfl (Nat.le_of_ble_eq_true rfl) rfl ?_
    exact s_readWord_go hr ht he hn hA (by decide) (by omega) 7 0 0 _ _ rfl (by decide)
  · skip
    rw [if_neg h5]
    refine g_icmp_ge 16 rfl rfl (fun _ => ?_) (fun hc => absurd hc (by rw [i_le, eH, e5]; omega))
    refine g_bipush (n := 6) rfl ?_
    refine g_istore_n (i := 1) (L1 := [some (.ref rp), some (.int (Int8.ofInt 6).toInt32), none, none, none, none]) rfl (Nat.le_of_ble_eq_true rfl) rfl ?_
    refine g_iconst (n := 0) rfl ?_
    refine g_istore_n (i := 2) (L1 := [some (.ref rp), some (.int (Int8.ofInt 6).toInt32), some (.int (Int32.ofInt 0)), none, none, none]) rfl (Nat.le_of_ble_eq_true rfl) rfl ?_
    refine g_iconst (n := 0) rfl ?_
    refine g_istore_n (i := 3) (L1 := [some (.ref rp), some (.int (Int8.ofInt 6).toInt32), some (.int (Int32.ofInt 0)), some (.int (Int32.ofInt 0)), none, none]) rfl (Nat.le_of_ble_eq_true rfl) rfl ?_
    exact s_readWord_go hr ht he hn hA (by decide) (by omega) 6 0 0 _ _ rfl (by decide)
