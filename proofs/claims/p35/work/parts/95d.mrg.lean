section
/-! ===== faults of a parting, the reference ===== -/
def fcI (o : Option (Nat × Nat)) : Int32 := match o with
  | none => 0
  | some (f, _) => Int32.ofNat f
def cuI (o : Option (Nat × Nat)) : Int32 := match o with
  | none => Int32.ofInt (-1)
  | some (_, i) => Int32.ofNat i
def e60 (h h' : sHp) : Prop := h'.length = h.length ∧ ∀ q, q ≠ 60 → h'[q]? = h[q]?
theorem e60_rfl {h : sHp} : e60 h h := ⟨rfl, fun _ _ => rfl⟩
theorem e60_set {h h1 : sHp} {x : va_E} (a : e60 h h1) : e60 h (h1.set 60 x) := ⟨by rw [List.length_set]; exact a.1, fun q hq => by rw [s_set_ne (Ne.symm hq)]; exact a.2 q hq⟩
def qF (h0 : sHp) (J0 : Nat → Int32) (o : Option (Nat × Nat)) (r : Option Value) (h' : sHp) : Prop := ∃ J' : Nat → Int32, h'[60]? = some (mO J') ∧ (∀ j, j ≠ 28 → J' j = J0 j) ∧ J' 28 = cuI o ∧ e60 h0 h' ∧ r = some (.int (fcI o))
theorem qF_some {h : sHp} {J : Nat → Int32} {f i : Nat} (hr : h[60]? = some (mO J)) : qF h J (some (f, i)) (some (.int (Int32.ofNat f))) (h.set 60 (mO (upd J 28 (Int32.ofNat i)))) := ⟨_, s_set_eq hr, fun j hj => u_ne hj, u_at, e60_set e60_rfl, rfl⟩
theorem cdS_lt {i : Nat} (h : i < 5) : cdS i = Int32.ofNat i := by
  unfold cdS
  rw [if_neg (by omega), if_neg (by omega)]
theorem s_pc12 {d : Nat} {h : sHp} {m : MF} {W H k : Nat} {S : Nat → Int64} {v : Int32} (hd : 1 ≤ d) (M : MC h m) (g : gdM m.1 W H) (P : PT S m.2.2.1 (W * H)) (hk : k < 7) (hv : v = cdS k) : sDo d 213 [.ref 60, .int v] h (fun r h' => h' = h ∧ r = some (.long (S k))) := by
  rw [P.1 k hk, ← hv]
  exact s_piece12 hd M g
theorem s_fn_22 {d : Nat} {h0 : sHp} {J0 : Nat → Int32} {x : Int64} {j : Nat} {o3 o4 o5 o6 o7 o8 o9 : Option Value} (hd : 1 ≤ d) (hj : j < 64) (h1 : bt x j = true) (hl : ∀ i, i < j → bt x i = false) : ∀ (f k : Nat) (h : sHp) (J : Nat → Int32), k + f = j → h[60]? = some (mO J) → (∀ i, i ≠ 28 → J i = J0 i) → J 28 = Int32.ofNat k → e60 h0 h → sGo none 227 d 22 [some (.ref 60), some (.long x), none, o3, o4, o5, o6, o7, o8, o9] [] h (qF h0 J0 (some (1, j))) := by
  intro f
  induction f with
  | zero =>
    intro k h J hk hr hJ h28 E
    have kj : k = j := by omega
    subst kj
    refine g_aload_n (i := 0) rfl rfl ?_
    refine g_lload_n (i := 1) rfl rfl ?_
    refine g_aload_n (i := 0) rfl rfl ?_
    refine g_getfield (v := .int (J 28)) rfl hr (by decide) rfl ?_
    rw [h28]
    refine g_virt2 (Qc := fun r h' => h' = h ∧ r = some (.int (zI (bt x k = true)))) rfl (by decide) rfl hr rfl (Nat.le_of_ble_eq_true rfl) (s_hasE (by omega) hr (by omega)) (fun r h hq9 => ?_)
    obtain ⟨rfl, rfl⟩ := hq9
    refine g_if_ne 47 rfl rfl (fun _ => ?_) (fun hc => absurd hc (by rw [zI_pos h1]; decide))
    refine g_iconst (n := 1) rfl ?_
    refine g_ireturn (ty := .int) rfl rfl rfl ?_
    exact ⟨J, hr, hJ, h28, E, rfl⟩
  | succ f ih =>
    intro k h J hk hr hJ h28 E
    have hz := hl k (by omega)
    have hz2 : ¬ bt x k = true := fun z => by rw [hz] at z; cases z
    refine g_aload_n (i := 0) rfl rfl ?_
    refine g_lload_n (i := 1) rfl rfl ?_
    refine g_aload_n (i := 0) rfl rfl ?_
    refine g_getfield (v := .int (J 28)) rfl hr (by decide) rfl ?_
    rw [h28]
    refine g_virt2 (Qc := fun r h' => h' = h ∧ r = some (.int (zI (bt x k = true)))) rfl (by decide) rfl hr rfl (Nat.le_of_ble_eq_true rfl) (s_hasE (by omega) hr (by omega)) (fun r h hq9 => ?_)
    obtain ⟨rfl, rfl⟩ := hq9
    refine g_if_ne 47 rfl rfl (fun hc => absurd hc (by intro z; exact z (zI_neg hz2))) (fun _ => ?_)
    refine g_aload_n (i := 0) rfl rfl ?_
    refine g_dup rfl rfl ?_
    refine g_getfield (v := .int (J 28)) rfl hr (by decide) rfl ?_
    refine g_iconst (n := 1) rfl ?_
    refine g_iadd rfl ?_
    rw [h28, show Int32.ofNat k + Int32.ofInt 1 = Int32.ofNat (k + 1) from ofN_add (by omega)]
    refine g_putfield (h1 := h.set 60 (mO (upd J 28 (Int32.ofNat (k + 1))))) rfl hr (by decide) (Nat.le_of_ble_eq_true rfl) rfl rfl ?_
    refine g_goto 22 rfl rfl ?_
    exact ih (k + 1) _ _ (by omega) (s_set_eq hr) (fun i hi => (u_ne hi).trans (hJ i hi)) u_at (e60_set E)
theorem s_fn2 {d : Nat} {h : sHp} {c : CF} {m : MF} {s : Sg} {S : Nat → Int64} {x : Int64} {R : Option (Nat × Nat)} {o6 o7 o8 o9 : Option Value} (hd : 4 ≤ d) (M : MC h m) (gM : gdM m.1 s.1 s.2.1) (g : gdF c s.1 s.2.1) (r : RB c m) (sI : sgI c s) (sJ : sgJ m.1 s) (P : PT S m.2.2.1 (s.1 * s.2.1)) (hnone : ∀ (o3 o4 o5 : Option Value), sGo none 227 d 105 [some (.ref 60), some (.long x), none, o3, o4, o5, o6, o7, o8, o9] [] h (qF h m.1 (R))) : ∀ (f k : Nat) (o4 o5 : Option Value), k + f = s.2.2 → sGo none 227 d 51 [some (.ref 60), some (.long x), none, some (.int (Int32.ofNat k)), o4, o5, o6, o7, o8, o9] [] h (qF h m.1 (vdT (fst1 (fltP m s S 2) f k) 2 R)) := by
  have hr := M.1
  have n5 := sI.2.2.2.2.2.2.2
  have hn := gdF_n g
  have RS := (r.2 s sI).1
  have e6 : (m.1 6).toInt = ((s.2.2 : Nat) : Int) := by rw [sJ.2.2.1]; exact ofN_toInt (by omega)
  intro f
  induction f with
  | zero =>
    intro k o4 o5 hk
    have ek := ofN_toInt (n := k) (by omega)
    refine g_iload_n (i := 3) rfl rfl ?_
    refine g_aload_n (i := 0) rfl rfl ?_
    refine g_getfield (v := .int (m.1 6)) rfl hr (by decide) rfl ?_
    refine g_icmp_ge 105 rfl rfl (fun _ => ?_) (fun hc => absurd hc (by rw [i_le, e6, ek]; omega))
    exact hnone _ _ _
  | succ f ih =>
    intro k o4 o5 hk
    have ek := ofN_toInt (n := k) (by omega)
    have hk5 : k < s.2.2 := by omega
    have RP := (RP_k r sI).2.2
    have es : (m.1 5).toInt = ((smN m : Nat) : Int) := by unfold smN; omega
    have hpl := ptS_le (W := s.1) (n := (s.1 * s.2.1)) 64 (S k)
    have hcl := cnt_le (S k)
    have ep := ofN_toInt (n := ptS s.1 (s.1 * s.2.1) 64 (S k)) (by omega)
    have ec := ofN_toInt (n := cnt (S k)) (by omega)
    refine g_iload_n (i := 3) rfl rfl ?_
    refine g_aload_n (i := 0) rfl rfl ?_
    refine g_getfield (v := .int (m.1 6)) rfl hr (by decide) rfl ?_
    refine g_icmp_ge 105 rfl rfl (fun hc => absurd hc (by rw [i_le, e6, ek]; omega)) (fun _ => ?_)
    refine g_aload_n (i := 0) rfl rfl ?_
    refine g_iload_n (i := 3) rfl rfl ?_
    refine g_virt1 (Qc := fun r h' => h' = h ∧ r = some (.long (S k))) rfl (by decide) rfl hr rfl (Nat.le_of_ble_eq_true rfl) (s_pc12 (k := k) (by omega) M gM P (by omega) (cdS_lt (by omega)).symm) (fun r h hq9 => ?_)
    obtain ⟨rfl, rfl⟩ := hq9
    refine g_lstore (i := 4) (L1 := [some (.ref 60), some (.long x), none, some (.int (Int32.ofNat k)), some (.long (S k)), none, o6, o7, o8, o9]) rfl (Nat.le_of_ble_eq_true rfl) rfl ?_
    refine g_aload_n (i := 0) rfl rfl ?_
    refine g_lload (i := 4) rfl rfl ?_
    refine g_virt1 (Qc := fun r h' => h' = h ∧ r = some (.int (Int32.ofNat (ptS s.1 (s.1 * s.2.1) 64 (S k))))) rfl (by decide) rfl hr rfl (Nat.le_of_ble_eq_true rfl) (s_partsOf (by omega) hr gM) (fun r h hq9 => ?_)
    obtain ⟨rfl, rfl⟩ := hq9
    refine g_iconst (n := 2) rfl ?_
    have k_2 : (Int32.ofInt 2).toInt = 2 := rfl
    refine g_icmp_ge 92 rfl rfl (fun c_1 => ?_) (fun c_1 => ?_)
    · skip
      rw [i_le, ep, k_2] at c_1
      have yf : fltP m s S 2 k := fun z => by have z1 := z.1; have z2 := z.2; omega
      rw [fst1_y yf]
      refine g_aload_n (i := 0) rfl rfl ?_
      refine g_iload_n (i := 3) rfl rfl ?_
      refine g_putfield (h1 := h.set 60 (mO (upd m.1 28 (Int32.ofNat k)))) rfl hr (by decide) (Nat.le_of_ble_eq_true rfl) rfl rfl ?_
      refine g_iconst (n := 2) rfl ?_
      refine g_ireturn (ty := .int) rfl rfl rfl ?_
      exact qF_some hr
    · skip
      rw [i_le, ep, k_2] at c_1
      refine g_aload_n (i := 0) rfl rfl ?_
      refine g_lload (i := 4) rfl rfl ?_
      refine g_virt1 (Qc := fun r h' => h' = h ∧ r = some (.int (Int32.ofNat (cnt (S k))))) rfl (by decide) rfl hr rfl (Nat.le_of_ble_eq_true rfl) (s_manyE (by omega)) (fun r h hq9 => ?_)
      obtain ⟨rfl, rfl⟩ := hq9
      refine g_aload_n (i := 0) rfl rfl ?_
      refine g_getfield (v := .int (m.1 5)) rfl hr (by decide) rfl ?_
      refine g_icmp_lt 92 rfl rfl (fun c_3 => ?_) (fun c_3 => ?_)
      · skip
        rw [i_lt, ec, es] at c_3
        have yf : fltP m s S 2 k := fun z => by have z1 := z.1; have z2 := z.2; omega
        rw [fst1_y yf]
        refine g_aload_n (i := 0) rfl rfl ?_
        refine g_iload_n (i := 3) rfl rfl ?_
        refine g_putfield (h1 := h.set 60 (mO (upd m.1 28 (Int32.ofNat k)))) rfl hr (by decide) (Nat.le_of_ble_eq_true rfl) rfl rfl ?_
        refine g_iconst (n := 2) rfl ?_
        refine g_ireturn (ty := .int) rfl rfl rfl ?_
        exact qF_some hr
      · skip
        rw [i_lt, ec, es] at c_3
        refine g_goto 99 rfl rfl ?_
        refine g_iinc (i := 3) (L1 := [some (.ref 60), some (.long x), none, some (.int ((Int32.ofNat k) + Int32.ofInt 1)), some (.long (S k)), none, o6, o7, o8, o9]) rfl rfl rfl ?_
        rw [ofN_add (by omega)]
        refine g_goto 51 rfl rfl ?_
        have nf : ¬ fltP m s S 2 k := fun z => z ⟨by omega, by omega⟩
        rw [fst1_n nf]
        exact ih (k + 1) _ _ (by omega)
theorem s_fn3 {d : Nat} {h : sHp} {c : CF} {m : MF} {s : Sg} {S : Nat → Int64} {x : Int64} {R : Option (Nat × Nat)} {o8 o9 : Option Value} (hd : 4 ≤ d) (M : MC h m) (gM : gdM m.1 s.1 s.2.1) (g : gdF c s.1 s.2.1) (r : RB c m) (sI : sgI c s) (sJ : sgJ m.1 s) (P : PT S m.2.2.1 (s.1 * s.2.1)) (hnone : ∀ (o7 : Option Value), sGo none 227 d 177 [some (.ref 60), some (.long x), none, some (.long (S 5)), none, some (.long (rdS s.1 s.2.1 (m.1 2).toInt ||| besS s.1 (s.1 * s.2.1) (grF s.1 (s.1 * s.2.1) (S 5) ((S 5 &&& rdS s.1 s.2.1 (m.1 2).toInt) &&& S 5)))), none, o7, o8, o9] [] h (qF h m.1 (R))) : ∀ (f k : Nat), k + f = s.2.2 → sGo none 227 d 137 [some (.ref 60), some (.long x), none, some (.long (S 5)), none, some (.long (rdS s.1 s.2.1 (m.1 2).toInt ||| besS s.1 (s.1 * s.2.1) (grF s.1 (s.1 * s.2.1) (S 5) ((S 5 &&& rdS s.1 s.2.1 (m.1 2).toInt) &&& S 5)))), none, some (.int (Int32.ofNat k)), o8, o9] [] h (qF h m.1 (vdT (fst1 (fltP m s S 3) f k) 3 R)) := by
  have hr := M.1
  have n5 := sI.2.2.2.2.2.2.2
  have hn := gdF_n g
  have RS := (r.2 s sI).1
  have e6 : (m.1 6).toInt = ((s.2.2 : Nat) : Int) := by rw [sJ.2.2.1]; exact ofN_toInt (by omega)
  intro f
  induction f with
  | zero =>
    intro k hk
    have ek := ofN_toInt (n := k) (by omega)
    refine g_iload (i := 7) rfl rfl ?_
    refine g_aload_n (i := 0) rfl rfl ?_
    refine g_getfield (v := .int (m.1 6)) rfl hr (by decide) rfl ?_
    refine g_icmp_ge 177 rfl rfl (fun _ => ?_) (fun hc => absurd hc (by rw [i_le, e6, ek]; omega))
    exact hnone _
  | succ f ih =>
    intro k hk
    have ek := ofN_toInt (n := k) (by omega)
    have hk5 : k < s.2.2 := by omega
    refine g_iload (i := 7) rfl rfl ?_
    refine g_aload_n (i := 0) rfl rfl ?_
    refine g_getfield (v := .int (m.1 6)) rfl hr (by decide) rfl ?_
    refine g_icmp_ge 177 rfl rfl (fun hc => absurd hc (by rw [i_le, e6, ek]; omega)) (fun _ => ?_)
    refine g_aload_n (i := 0) rfl rfl ?_
    refine g_iload (i := 7) rfl rfl ?_
    refine g_virt1 (Qc := fun r h' => h' = h ∧ r = some (.long (S k))) rfl (by decide) rfl hr rfl (Nat.le_of_ble_eq_true rfl) (s_pc12 (k := k) (by omega) M gM P (by omega) (cdS_lt (by omega)).symm) (fun r h hq9 => ?_)
    obtain ⟨rfl, rfl⟩ := hq9
    refine g_lload (i := 5) rfl rfl ?_
    refine g_land rfl ?_
    refine g_lconst (n := 0) rfl ?_
    show sGo none 227 _ 156 [some (.ref 60), some (.long x), none, some (.long (S 5)), none, some (.long (rdS s.1 s.2.1 (m.1 2).toInt ||| besS s.1 (s.1 * s.2.1) (grF s.1 (s.1 * s.2.1) (S 5) ((S 5 &&& rdS s.1 s.2.1 (m.1 2).toInt) &&& S 5)))), none, some (.int (Int32.ofNat k)), o8, o9] [.long (Int64.ofNat 0), .long ((S k) &&& (rdS s.1 s.2.1 (m.1 2).toInt ||| besS s.1 (s.1 * s.2.1) (grF s.1 (s.1 * s.2.1) (S 5) ((S 5 &&& rdS s.1 s.2.1 (m.1 2).toInt) &&& S 5))))] _ _
    refine g_lcmp rfl ?_
    refine g_if_eq 163 rfl rfl (fun c_1 => ?_) (fun c_1 => ?_)
    · skip
      rw [lc_eq] at c_1
      rw [fst1_y (show fltP m s S 3 k from c_1)]
      refine g_aload_n (i := 0) rfl rfl ?_
      refine g_iload (i := 7) rfl rfl ?_
      refine g_putfield (h1 := h.set 60 (mO (upd m.1 28 (Int32.ofNat k)))) rfl hr (by decide) (Nat.le_of_ble_eq_true rfl) rfl rfl ?_
      refine g_iconst (n := 3) rfl ?_
      refine g_ireturn (ty := .int) rfl rfl rfl ?_
      exact qF_some hr
    · skip
      rw [lc_eq] at c_1
      refine g_goto 171 rfl rfl ?_
      refine g_iinc (i := 7) (L1 := [some (.ref 60), some (.long x), none, some (.long (S 5)), none, some (.long (rdS s.1 s.2.1 (m.1 2).toInt ||| besS s.1 (s.1 * s.2.1) (grF s.1 (s.1 * s.2.1) (S 5) ((S 5 &&& rdS s.1 s.2.1 (m.1 2).toInt) &&& S 5)))), none, some (.int ((Int32.ofNat k) + Int32.ofInt 1)), o8, o9]) rfl rfl rfl ?_
      rw [ofN_add (by omega)]
      refine g_goto 137 rfl rfl ?_
      rw [fst1_n (show ¬ fltP m s S 3 k from c_1)]
      exact ih (k + 1) (by omega)
theorem s_fn4 {d : Nat} {h : sHp} {c : CF} {m : MF} {s : Sg} {S : Nat → Int64} {x : Int64} {R : Option (Nat × Nat)} {w : Nat} (hd : 4 ≤ d) (M : MC h m) (gM : gdM m.1 s.1 s.2.1) (g : gdF c s.1 s.2.1) (r : RB c m) (sI : sgI c s) (sJ : sgJ m.1 s) (P : PT S m.2.2.1 (s.1 * s.2.1)) (hw : m.1 3 = Int32.ofNat w) (hwn : w < (s.1 * s.2.1)) (hwl : S 5 &&& (Int64.ofNat 1 <<< ((Int32.ofNat w).toInt64 &&& 63)) = Int64.ofNat 0) (hnone : ∀ (o7 o8 o9 : Option Value), sGo none 227 d 261 [some (.ref 60), some (.long x), none, some (.long (S 5)), none, some (.long (rdS s.1 s.2.1 (m.1 2).toInt ||| besS s.1 (s.1 * s.2.1) (grF s.1 (s.1 * s.2.1) (S 5) ((S 5 &&& rdS s.1 s.2.1 (m.1 2).toInt) &&& S 5)))), none, o7, o8, o9] [] h (qF h m.1 (R))) : ∀ (f k : Nat), k + f = s.2.2 → sGo none 227 d 221 [some (.ref 60), some (.long x), none, some (.long (S 5)), none, some (.long (rdS s.1 s.2.1 (m.1 2).toInt ||| besS s.1 (s.1 * s.2.1) (grF s.1 (s.1 * s.2.1) (S 5) ((S 5 &&& rdS s.1 s.2.1 (m.1 2).toInt) &&& S 5)))), none, some (.long (besS s.1 (s.1 * s.2.1) (Int64.ofNat 1 <<< ((Int32.ofNat w).toInt64 &&& 63)) ||| (Int64.ofNat 1 <<< ((Int32.ofNat w).toInt64 &&& 63)))), none, some (.int (Int32.ofNat k))] [] h (qF h m.1 (vdT (fst1 (fltP m s S 4) f k) 4 R)) := by
  have hr := M.1
  have n5 := sI.2.2.2.2.2.2.2
  have hn := gdF_n g
  have RS := (r.2 s sI).1
  have e6 : (m.1 6).toInt = ((s.2.2 : Nat) : Int) := by rw [sJ.2.2.1]; exact ofN_toInt (by omega)
  intro f
  induction f with
  | zero =>
    intro k hk
    have ek := ofN_toInt (n := k) (by omega)
    refine g_iload (i := 9) rfl rfl ?_
    refine g_aload_n (i := 0) rfl rfl ?_
    refine g_getfield (v := .int (m.1 6)) rfl hr (by decide) rfl ?_
    refine g_icmp_ge 261 rfl rfl (fun _ => ?_) (fun hc => absurd hc (by rw [i_le, e6, ek]; omega))
    exact hnone _ _ _
  | succ f ih =>
    intro k hk
    have ek := ofN_toInt (n := k) (by omega)
    have hk5 : k < s.2.2 := by omega
    have oc : (besS s.1 (s.1 * s.2.1) (Int64.ofNat 1 <<< ((Int32.ofNat w).toInt64 &&& 63)) ||| (Int64.ofNat 1 <<< ((Int32.ofNat w).toInt64 &&& 63))) = ((Int64.ofNat 1 <<< ((Int32.ofNat w).toInt64 &&& 63)) ||| besS s.1 (s.1 * s.2.1) (Int64.ofNat 1 <<< ((Int32.ofNat w).toInt64 &&& 63))) := bt_ext (fun q _ => by rw [bt_or, bt_or, Bool.or_comm])
    refine g_iload (i := 9) rfl rfl ?_
    refine g_aload_n (i := 0) rfl rfl ?_
    refine g_getfield (v := .int (m.1 6)) rfl hr (by decide) rfl ?_
    refine g_icmp_ge 261 rfl rfl (fun hc => absurd hc (by rw [i_le, e6, ek]; omega)) (fun _ => ?_)
    refine g_aload_n (i := 0) rfl rfl ?_
    refine g_iload (i := 9) rfl rfl ?_
    refine g_virt1 (Qc := fun r h' => h' = h ∧ r = some (.long (S k))) rfl (by decide) rfl hr rfl (Nat.le_of_ble_eq_true rfl) (s_pc12 (k := k) (by omega) M gM P (by omega) (cdS_lt (by omega)).symm) (fun r h hq9 => ?_)
    obtain ⟨rfl, rfl⟩ := hq9
    refine g_lload (i := 7) rfl rfl ?_
    refine g_land rfl ?_
    refine g_lconst (n := 0) rfl ?_
    show sGo none 227 _ 240 [some (.ref 60), some (.long x), none, some (.long (S 5)), none, some (.long (rdS s.1 s.2.1 (m.1 2).toInt ||| besS s.1 (s.1 * s.2.1) (grF s.1 (s.1 * s.2.1) (S 5) ((S 5 &&& rdS s.1 s.2.1 (m.1 2).toInt) &&& S 5)))), none, some (.long (besS s.1 (s.1 * s.2.1) (Int64.ofNat 1 <<< ((Int32.ofNat w).toInt64 &&& 63)) ||| (Int64.ofNat 1 <<< ((Int32.ofNat w).toInt64 &&& 63)))), none, some (.int (Int32.ofNat k))] [.long (Int64.ofNat 0), .long ((S k) &&& (besS s.1 (s.1 * s.2.1) (Int64.ofNat 1 <<< ((Int32.ofNat w).toInt64 &&& 63)) ||| (Int64.ofNat 1 <<< ((Int32.ofNat w).toInt64 &&& 63))))] _ _
    refine g_lcmp rfl ?_
    refine g_if_eq 247 rfl rfl (fun c_1 => ?_) (fun c_1 => ?_)
    · skip
      rw [lc_eq] at c_1
      rw [oc] at c_1
      rw [fst1_y (show fltP m s S 4 k from ⟨w, hwn, hw, hwl, c_1⟩)]
      refine g_aload_n (i := 0) rfl rfl ?_
      refine g_iload (i := 9) rfl rfl ?_
      refine g_putfield (h1 := h.set 60 (mO (upd m.1 28 (Int32.ofNat k)))) rfl hr (by decide) (Nat.le_of_ble_eq_true rfl) rfl rfl ?_
      refine g_iconst (n := 4) rfl ?_
      refine g_ireturn (ty := .int) rfl rfl rfl ?_
      exact qF_some hr
    · skip
      rw [lc_eq] at c_1
      refine g_goto 255 rfl rfl ?_
      refine g_iinc (i := 9) (L1 := [some (.ref 60), some (.long x), none, some (.long (S 5)), none, some (.long (rdS s.1 s.2.1 (m.1 2).toInt ||| besS s.1 (s.1 * s.2.1) (grF s.1 (s.1 * s.2.1) (S 5) ((S 5 &&& rdS s.1 s.2.1 (m.1 2).toInt) &&& S 5)))), none, some (.long (besS s.1 (s.1 * s.2.1) (Int64.ofNat 1 <<< ((Int32.ofNat w).toInt64 &&& 63)) ||| (Int64.ofNat 1 <<< ((Int32.ofNat w).toInt64 &&& 63)))), none, some (.int ((Int32.ofNat k) + Int32.ofInt 1))]) rfl rfl rfl ?_
      rw [ofN_add (by omega)]
      refine g_goto 221 rfl rfl ?_
      rw [oc] at c_1
      have nf : ¬ fltP m s S 4 k := fun z => by
        obtain ⟨w2, h2, e2, z1, z2⟩ := z
        obtain rfl : w2 = w := ofN_inj (by omega) (by omega) (e2.symm.trans hw)
        exact c_1 z2
      rw [fst1_n nf]
      exact ih (k + 1) (by omega)
theorem s_fn5 {d : Nat} {h : sHp} {c : CF} {m : MF} {s : Sg} {S : Nat → Int64} {x : Int64} {o8 o9 : Option Value} (hd : 4 ≤ d) (M : MC h m) (gM : gdM m.1 s.1 s.2.1) (g : gdF c s.1 s.2.1) (r : RB c m) (sI : sgI c s) (sJ : sgJ m.1 s) (P : PT S m.2.2.1 (s.1 * s.2.1)) (h28 : m.1 28 = Int32.ofInt (-1)) : ∀ (f k : Nat), k + f = s.2.2 → sGo none 227 d 264 [some (.ref 60), some (.long x), none, some (.long (S 5)), none, some (.long (rdS s.1 s.2.1 (m.1 2).toInt ||| besS s.1 (s.1 * s.2.1) (grF s.1 (s.1 * s.2.1) (S 5) ((S 5 &&& rdS s.1 s.2.1 (m.1 2).toInt) &&& S 5)))), none, some (.int (Int32.ofNat k)), o8, o9] [] h (qF h m.1 (vdT (fst1 (fltP m s S 5) f k) 5 none)) := by
  have hr := M.1
  have n5 := sI.2.2.2.2.2.2.2
  have hn := gdF_n g
  have RS := (r.2 s sI).1
  have e6 : (m.1 6).toInt = ((s.2.2 : Nat) : Int) := by rw [sJ.2.2.1]; exact ofN_toInt (by omega)
  intro f
  induction f with
  | zero =>
    intro k hk
    have ek := ofN_toInt (n := k) (by omega)
    refine g_iload (i := 7) rfl rfl ?_
    refine g_aload_n (i := 0) rfl rfl ?_
    refine g_getfield (v := .int (m.1 6)) rfl hr (by decide) rfl ?_
    refine g_icmp_ge 328 rfl rfl (fun _ => ?_) (fun hc => absurd hc (by rw [i_le, e6, ek]; omega))
    refine g_iconst (n := 0) rfl ?_
    refine g_ireturn (ty := .int) rfl rfl rfl ?_
    exact ⟨m.1, hr, fun _ _ => rfl, h28, e60_rfl, rfl⟩
  | succ f ih =>
    intro k hk
    have ek := ofN_toInt (n := k) (by omega)
    have hk5 : k < s.2.2 := by omega
    have a1 := wV_le (x := S k) hn.1 RS hk5
    have a2 := wV_le (x := stO (fun _ => true) (s.1 * s.2.1)) hn.1 RS hk5
    have a3 := ssN_le (m := m) s.2.2 (fun i hi => (RB_sh RS hi).2.1)
    have a4 := RB_sh RS hk5
    have ew1 := ofC_toInt (n := wV m (s.1 * s.2.1) k (S k)) (by omega)
    have ew2 := ofC_toInt (n := wV m (s.1 * s.2.1) k (stO (fun _ => true) (s.1 * s.2.1))) (by omega)
    have p1 : wV m (s.1 * s.2.1) k (S k) * ssN m s.2.2 ≤ 6356 * 45 := Nat.mul_le_mul a1 (by omega)
    have p2 : shN m k * wV m (s.1 * s.2.1) k (stO (fun _ => true) (s.1 * s.2.1)) ≤ 9 * 6356 := Nat.mul_le_mul a4.2.1 a2
    have m1 : (Int32.ofNat (wV m (s.1 * s.2.1) k (S k)) * Int32.ofNat (ssN m s.2.2)).toInt = ((wV m (s.1 * s.2.1) k (S k) * ssN m s.2.2 : Nat) : Int) := n_mul (ofC_toInt (by omega)) (ofC_toInt (by omega)) (by omega)
    have m2 : (Int32.ofNat (shN m k) * Int32.ofNat (wV m (s.1 * s.2.1) k (stO (fun _ => true) (s.1 * s.2.1)))).toInt = ((shN m k * wV m (s.1 * s.2.1) k (stO (fun _ => true) (s.1 * s.2.1)) : Nat) : Int) := n_mul (ofC_toInt (by omega)) (ofC_toInt (by omega)) (by omega)
    refine g_iload (i := 7) rfl rfl ?_
    refine g_aload_n (i := 0) rfl rfl ?_
    refine g_getfield (v := .int (m.1 6)) rfl hr (by decide) rfl ?_
    refine g_icmp_ge 328 rfl rfl (fun hc => absurd hc (by rw [i_le, e6, ek]; omega)) (fun _ => ?_)
    refine g_aload_n (i := 0) rfl rfl ?_
    refine g_iload (i := 7) rfl rfl ?_
    refine g_aload_n (i := 0) rfl rfl ?_
    refine g_iload (i := 7) rfl rfl ?_
    refine g_virt1 (Qc := fun r h' => h' = h ∧ r = some (.long (S k))) rfl (by decide) rfl hr rfl (Nat.le_of_ble_eq_true rfl) (s_pc12 (k := k) (by omega) M gM P (by omega) (cdS_lt (by omega)).symm) (fun r h hq9 => ?_)
    obtain ⟨rfl, rfl⟩ := hq9
    refine g_virt2 (Qc := fun r h' => h' = h ∧ r = some (.int (Int32.ofNat (wV m (s.1 * s.2.1) k (S k))))) rfl (by decide) rfl hr rfl (Nat.le_of_ble_eq_true rfl) (s_worthOf12 (by omega) M g gM r sI hk5) (fun r h hq9 => ?_)
    obtain ⟨rfl, rfl⟩ := hq9
    refine g_aload_n (i := 0) rfl rfl ?_
    refine g_virt0 (Qc := fun r h' => h' = h ∧ r = some (.int (Int32.ofNat (ssN m s.2.2)))) rfl (by decide) rfl hr rfl (Nat.le_of_ble_eq_true rfl) (s_shares12 (by omega) M r sI sJ) (fun r h hq9 => ?_)
    obtain ⟨rfl, rfl⟩ := hq9
    have k_1 := ofN_toInt (n := (ssN m s.2.2)) (by omega)
    refine g_imul rfl ?_
    refine g_aload_n (i := 0) rfl rfl ?_
    refine g_getfield (v := .ref 64) rfl hr (by decide) rfl ?_
    refine g_iload (i := 7) rfl rfl ?_
    refine g_iaload (n := 5) (f := m.2.2.2.1) rfl M.2.2.2.1 (i_in (by omega) (by omega)) ?_
    rw [i_nat ek, a4.2.2.1]
    refine g_aload_n (i := 0) rfl rfl ?_
    refine g_iload (i := 7) rfl rfl ?_
    refine g_aload_n (i := 0) rfl rfl ?_
    refine g_virt0 (Qc := fun r h' => h' = h ∧ r = some (.long (stO (fun _ => true) (s.1 * s.2.1)))) rfl (by decide) rfl hr rfl (Nat.le_of_ble_eq_true rfl) (s_all12 (by omega) hr gM) (fun r h hq9 => ?_)
    obtain ⟨rfl, rfl⟩ := hq9
    refine g_virt2 (Qc := fun r h' => h' = h ∧ r = some (.int (Int32.ofNat (wV m (s.1 * s.2.1) k (stO (fun _ => true) (s.1 * s.2.1)))))) rfl (by decide) rfl hr rfl (Nat.le_of_ble_eq_true rfl) (s_worthOf12 (by omega) M g gM r sI hk5) (fun r h hq9 => ?_)
    obtain ⟨rfl, rfl⟩ := hq9
    have k_2 := ofN_toInt (n := (shN m k)) (by omega)
    refine g_imul rfl ?_
    refine g_icmp_lt 314 rfl rfl (fun c_3 => ?_) (fun c_3 => ?_)
    · skip
      rw [i_lt, m1, m2] at c_3
      rw [fst1_y (show fltP m s S 5 k from (by show F5 _ _ _ _ _; unfold F5; omega))]
      refine g_aload_n (i := 0) rfl rfl ?_
      refine g_iload (i := 7) rfl rfl ?_
      refine g_putfield (h1 := h.set 60 (mO (upd m.1 28 (Int32.ofNat k)))) rfl hr (by decide) (Nat.le_of_ble_eq_true rfl) rfl rfl ?_
      refine g_iconst (n := 5) rfl ?_
      refine g_ireturn (ty := .int) rfl rfl rfl ?_
      exact qF_some hr
    · skip
      rw [i_lt, m1, m2] at c_3
      refine g_goto 322 rfl rfl ?_
      refine g_iinc (i := 7) (L1 := [some (.ref 60), some (.long x), none, some (.long (S 5)), none, some (.long (rdS s.1 s.2.1 (m.1 2).toInt ||| besS s.1 (s.1 * s.2.1) (grF s.1 (s.1 * s.2.1) (S 5) ((S 5 &&& rdS s.1 s.2.1 (m.1 2).toInt) &&& S 5)))), none, some (.int ((Int32.ofNat k) + Int32.ofInt 1)), o8, o9]) rfl rfl rfl ?_
      rw [ofN_add (by omega)]
      refine g_goto 264 rfl rfl ?_
      have nf : ¬ fltP m s S 5 k := fun z => by
        have z : F5 m (s.1 * s.2.1) s.2.2 k (S k) := z
        unfold F5 at z
        omega
      rw [fst1_n nf]
      exact ih (k + 1) (by omega)
theorem wV_4 {m : MF} {J2 : Nat → Int32} (hj : J2 4 = m.1 4) (n i : Nat) (x : Int64) : wV ((J2, m.2) : MF) n i x = wV m n i x := by
  have e : oakB ((J2, m.2) : MF) x = oakB m x := by
    unfold oakB
    rw [show ((J2, m.2) : MF).1 4 = m.1 4 from hj]
  unfold wV
  rw [e]
  rfl
theorem ssN_4 {m : MF} {J2 : Nat → Int32} : ∀ k, ssN ((J2, m.2) : MF) k = ssN m k := by
  intro k
  induction k with
  | zero => rfl
  | succ k ih => exact congrArg (fun z => z + shN m k) ih
theorem fltP_J {m : MF} {s : Sg} {S : Nat → Int64} {J2 : Nat → Int32} (hj : ∀ j, j < 7 → J2 j = m.1 j) : fltP ((J2, m.2) : MF) s S = fltP m s S := by
  have e2 : ((J2, m.2) : MF).1 2 = m.1 2 := hj 2 (by decide)
  have e3 : ((J2, m.2) : MF).1 3 = m.1 3 := hj 3 (by decide)
  have e5 : smN ((J2, m.2) : MF) = smN m := by
    unfold smN
    rw [show ((J2, m.2) : MF).1 5 = m.1 5 from hj 5 (by decide)]
  refine funext fun f => funext fun i => ?_
  unfold fltP
  rw [e2, e3, e5]
  have k5 : F5 ((J2, m.2) : MF) (s.1 * s.2.1) s.2.2 i (S i) = F5 m (s.1 * s.2.1) s.2.2 i (S i) := by
    unfold F5
    rw [wV_4 (hj 4 (by decide)), wV_4 (hj 4 (by decide)), ssN_4]
    rfl
  split
  · rfl
  · rfl
  · rfl
  · exact k5
theorem vdA_J {m : MF} {s : Sg} {S : Nat → Int64} {J2 : Nat → Int32} (hj : ∀ j, j < 7 → J2 j = m.1 j) : vdA ((J2, m.2) : MF) s S = vdA m s S := by
  unfold vdA
  rw [fltP_J hj]
theorem RB_J7 {c : CF} {m : MF} {J2 : Nat → Int32} (r : RB c m) (hj : ∀ j, j < 7 → J2 j = m.1 j) : RB c ((J2, m.2) : MF) := RB_ok.1 c m (J2, m.2) r ⟨hj, rfl⟩
theorem s_fn_5 {d : Nat} {h : sHp} {c : CF} {m : MF} {s : Sg} {S : Nat → Int64} (hd : 4 ≤ d) (M : MC h m) (gM : gdM m.1 s.1 s.2.1) (g : gdF c s.1 s.2.1) (r : RB c m) (sI : sgI c s) (sJ : sgJ m.1 s) (P : PT S m.2.2.1 (s.1 * s.2.1)) (h28 : m.1 28 = Int32.ofInt (-1)) : sGo none 227 d 5 [some (.ref 60), none, none, none, none, none, none, none, none, none] [] h (qF h m.1 (vdA m s S)) := by
  have hr := M.1
  have n5 := sI.2.2.2.2.2.2.2
  have hn := gdF_n g
  have RS := (r.2 s sI).1
  have e6 : (m.1 6).toInt = ((s.2.2 : Nat) : Int) := by rw [sJ.2.2.1]; exact ofN_toInt (by omega)
  have RP := RP_k r sI
  unfold vdA
  refine g_aload_n (i := 0) rfl rfl ?_
  refine g_iconst (n := (-1)) rfl ?_
  refine g_virt1 (Qc := fun r h' => h' = h ∧ r = some (.long (S 6))) rfl (by decide) rfl hr rfl (Nat.le_of_ble_eq_true rfl) (s_pc12 (k := 6) (by omega) M gM P (by decide) (by decide)) (fun r h hq9 => ?_)
  obtain ⟨rfl, rfl⟩ := hq9
  refine g_lstore_n (i := 1) (L1 := [some (.ref 60), some (.long (S 6)), none, none, none, none, none, none, none, none]) rfl (Nat.le_of_ble_eq_true rfl) rfl ?_
  refine g_lload_n (i := 1) rfl rfl ?_
  refine g_lconst (n := 0) rfl ?_
  show sGo none 227 _ 13 [some (.ref 60), some (.long (S 6)), none, none, none, none, none, none, none, none] [.long (Int64.ofNat 0), .long (S 6)] _ _
  refine g_lcmp rfl ?_
  refine g_if_eq 49 rfl rfl (fun c_1 => ?_) (fun c_1 => ?_)
  · skip
    rw [lc_eq] at c_1
    refine g_iconst (n := 0) rfl ?_
    refine g_istore_n (i := 3) (L1 := [some (.ref 60), some (.long (S 6)), none, some (.int (Int32.ofInt 0)), none, none, none, none, none, none]) rfl (Nat.le_of_ble_eq_true rfl) rfl ?_
    rw [if_pos c_1]
    refine s_fn2 (d := d) (R := vdG (fltP m s S) s.2.2 3 3) hd M gM g r sI sJ P (fun o3 o4 o5 => ?_) s.2.2 0 _ _ (Nat.zero_add _)
    have ac : rdS s.1 s.2.1 (m.1 2).toInt &&& S 5 = S 5 &&& rdS s.1 s.2.1 (m.1 2).toInt := bt_ext (fun q _ => by rw [bt_and, bt_and, Bool.and_comm])
    refine g_aload_n (i := 0) rfl rfl ?_
    refine g_bipush (n := 9) rfl ?_
    refine g_virt1 (Qc := fun r h' => h' = h ∧ r = some (.long (S 5))) rfl (by decide) rfl hr rfl (Nat.le_of_ble_eq_true rfl) (s_pc12 (k := 5) (by omega) M gM P (by decide) (by decide)) (fun r h hq9 => ?_)
    obtain ⟨rfl, rfl⟩ := hq9
    refine g_lstore_n (i := 3) (L1 := [some (.ref 60), some (.long (S 6)), none, some (.long (S 5)), none, o5, none, none, none, none]) rfl (Nat.le_of_ble_eq_true rfl) rfl ?_
    refine g_aload_n (i := 0) rfl rfl ?_
    refine g_virt0 (Qc := fun r h' => h' = h ∧ r = some (.long (rdS s.1 s.2.1 (m.1 2).toInt))) rfl (by decide) rfl hr rfl (Nat.le_of_ble_eq_true rfl) (s_road12 (by omega) M gM) (fun r h hq9 => ?_)
    obtain ⟨rfl, rfl⟩ := hq9
    refine g_aload_n (i := 0) rfl rfl ?_
    refine g_aload_n (i := 0) rfl rfl ?_
    refine g_aload_n (i := 0) rfl rfl ?_
    refine g_virt0 (Qc := fun r h' => h' = h ∧ r = some (.long (rdS s.1 s.2.1 (m.1 2).toInt))) rfl (by decide) rfl hr rfl (Nat.le_of_ble_eq_true rfl) (s_road12 (by omega) M gM) (fun r h hq9 => ?_)
    obtain ⟨rfl, rfl⟩ := hq9
    refine g_lload_n (i := 3) rfl rfl ?_
    refine g_land rfl ?_
    refine g_lload_n (i := 3) rfl rfl ?_
    rw [ac]
    refine g_virt2 (Qc := fun r h' => h' = h ∧ r = some (.long (grF s.1 (s.1 * s.2.1) (S 5) ((S 5 &&& rdS s.1 s.2.1 (m.1 2).toInt) &&& S 5)))) rfl (by decide) rfl hr rfl (Nat.le_of_ble_eq_true rfl) (s_grown12 (q0 := S 5 &&& rdS s.1 s.2.1 (m.1 2).toInt) (by omega) hr gM) (fun r h hq9 => ?_)
    obtain ⟨rfl, rfl⟩ := hq9
    refine g_virt1 (Qc := fun r h' => h' = h ∧ r = some (.long (besS s.1 (s.1 * s.2.1) (grF s.1 (s.1 * s.2.1) (S 5) ((S 5 &&& rdS s.1 s.2.1 (m.1 2).toInt) &&& S 5))))) rfl (by decide) rfl hr rfl (Nat.le_of_ble_eq_true rfl) (s_beside12 (by omega) hr gM) (fun r h hq9 => ?_)
    obtain ⟨rfl, rfl⟩ := hq9
    refine g_lor rfl ?_
    refine g_lstore (i := 5) (L1 := [some (.ref 60), some (.long (S 6)), none, some (.long (S 5)), none, some (.long ((rdS s.1 s.2.1 (m.1 2).toInt) ||| (besS s.1 (s.1 * s.2.1) (grF s.1 (s.1 * s.2.1) (S 5) ((S 5 &&& rdS s.1 s.2.1 (m.1 2).toInt) &&& S 5))))), none, none, none, none]) rfl (Nat.le_of_ble_eq_true rfl) rfl ?_
    refine g_iconst (n := 0) rfl ?_
    refine g_istore (i := 7) (L1 := [some (.ref 60), some (.long (S 6)), none, some (.long (S 5)), none, some (.long ((rdS s.1 s.2.1 (m.1 2).toInt) ||| (besS s.1 (s.1 * s.2.1) (grF s.1 (s.1 * s.2.1) (S 5) ((S 5 &&& rdS s.1 s.2.1 (m.1 2).toInt) &&& S 5))))), none, some (.int (Int32.ofInt 0)), none, none]) rfl (Nat.le_of_ble_eq_true rfl) rfl ?_
    refine s_fn3 (d := d) (R := vdG (fltP m s S) s.2.2 2 4) hd M gM g r sI sJ P (fun o7 => ?_) s.2.2 0 (Nat.zero_add _)
    have no4 : (∀ k, ¬ fltP m s S 4 k) → vdG (fltP m s S) s.2.2 2 4 = vdT (fst1 (fltP m s S 5) s.2.2 0) 5 none := fun z => by
      show vdT (fst1 (fltP m s S 4) s.2.2 0) 4 _ = _
      rw [fst1_no z]
      rfl
    rcases RP.2.1 with hw | ⟨w, hwn, hw⟩
    · rw [no4 (fun k z => by
        obtain ⟨k2, h2, e2, -⟩ := z
        rw [hw] at e2
        have e3 := congrArg Int32.toInt e2
        rw [ofN_toInt (by omega)] at e3
        have e1 : (-1 : Int32).toInt = -1 := rfl
        omega)]
      refine g_aload_n (i := 0) rfl rfl ?_
      refine g_getfield (v := .int (m.1 3)) rfl hr (by decide) rfl ?_
      refine g_iconst (n := (-1)) rfl ?_
      refine g_icmp_eq 261 rfl rfl (fun _ => ?_) (fun hc => absurd hc (by exact fun z => z hw))
      refine g_iconst (n := 0) rfl ?_
      refine g_istore (i := 7) (L1 := [some (.ref 60), some (.long (S 6)), none, some (.long (S 5)), none, some (.long (rdS s.1 s.2.1 (m.1 2).toInt ||| besS s.1 (s.1 * s.2.1) (grF s.1 (s.1 * s.2.1) (S 5) ((S 5 &&& rdS s.1 s.2.1 (m.1 2).toInt) &&& S 5)))), none, some (.int (Int32.ofInt 0)), none, none]) rfl (Nat.le_of_ble_eq_true rfl) rfl ?_
      exact s_fn5 (d := d) hd M gM g r sI sJ P h28 s.2.2 0 (Nat.zero_add _)
    · have ew : (m.1 3).toInt = ((w : Nat) : Int) := by rw [hw]; exact ofN_toInt (by omega)
      have lw : S 5 &&& (Int64.ofNat 1 <<< ((Int32.ofNat w).toInt64 &&& 63)) = Int64.ofNat 0 ↔ ¬ m.2.2.1 w = (Int8.ofInt 9).toInt32 := by
        have b5 := PT_bt hn.1 P (k := 5) (by decide) hwn
        constructor
        · intro z y
          have z2 := bt_eq0.mp z w (by omega)
          rw [bt_and, bt_one (by omega), decide_eq_true rfl, Bool.and_true, b5] at z2
          exact of_decide_eq_false z2 y
        · intro z
          refine bt_eq0.mpr (fun q hq => ?_)
          rw [bt_and, bt_one (by omega)]
          by_cases e : q = w
          · subst e; rw [b5, decide_eq_false (show ¬ m.2.2.1 q = cdS 5 from z)]; rfl
          · rw [decide_eq_false e, Bool.and_false]
      refine g_aload_n (i := 0) rfl rfl ?_
      refine g_getfield (v := .int (m.1 3)) rfl hr (by decide) rfl ?_
      refine g_iconst (n := (-1)) rfl ?_
      refine g_icmp_eq 261 rfl rfl (fun hc => absurd hc (by intro z; have z := congrArg Int32.toInt z; rw [ew] at z; have e1 : (Int32.ofInt (-1)).toInt = -1 := rfl; omega)) (fun _ => ?_)
      refine g_aload_n (i := 0) rfl rfl ?_
      refine g_getfield (v := .ref 63) rfl hr (by decide) rfl ?_
      refine g_aload_n (i := 0) rfl rfl ?_
      refine g_getfield (v := .int (m.1 3)) rfl hr (by decide) rfl ?_
      refine g_iaload (n := 64) (f := m.2.2.1) rfl M.2.2.1 (i_in (by omega) (by omega)) ?_
      rw [i_nat ew]
      refine g_bipush (n := 9) rfl ?_
      refine g_icmp_eq 261 rfl rfl (fun c_1 => ?_) (fun c_1 => ?_)
      · skip
        rw [no4 (fun k z => by
          obtain ⟨k2, h2, e2, z1, -⟩ := z
          obtain rfl : k2 = w := ofN_inj (by omega) (by omega) (e2.symm.trans hw)
          exact lw.mp z1 c_1)]
        refine g_iconst (n := 0) rfl ?_
        refine g_istore (i := 7) (L1 := [some (.ref 60), some (.long (S 6)), none, some (.long (S 5)), none, some (.long (rdS s.1 s.2.1 (m.1 2).toInt ||| besS s.1 (s.1 * s.2.1) (grF s.1 (s.1 * s.2.1) (S 5) ((S 5 &&& rdS s.1 s.2.1 (m.1 2).toInt) &&& S 5)))), none, some (.int (Int32.ofInt 0)), none, none]) rfl (Nat.le_of_ble_eq_true rfl) rfl ?_
        exact s_fn5 (d := d) hd M gM g r sI sJ P h28 s.2.2 0 (Nat.zero_add _)
      · skip
        refine g_aload_n (i := 0) rfl rfl ?_
        refine g_lconst (n := 1) rfl ?_
        show sGo none 227 _ 201 [some (.ref 60), some (.long (S 6)), none, some (.long (S 5)), none, some (.long (rdS s.1 s.2.1 (m.1 2).toInt ||| besS s.1 (s.1 * s.2.1) (grF s.1 (s.1 * s.2.1) (S 5) ((S 5 &&& rdS s.1 s.2.1 (m.1 2).toInt) &&& S 5)))), none, o7, none, none] [.long (Int64.ofNat 1), .ref 60] _ _
        refine g_aload_n (i := 0) rfl rfl ?_
        refine g_getfield (v := .int (m.1 3)) rfl hr (by decide) rfl ?_
        refine g_lshl rfl ?_
        rw [hw]
        refine g_virt1 (Qc := fun r h' => h' = h ∧ r = some (.long (besS s.1 (s.1 * s.2.1) (Int64.ofNat 1 <<< ((Int32.ofNat w).toInt64 &&& 63))))) rfl (by decide) rfl hr rfl (Nat.le_of_ble_eq_true rfl) (s_beside12 (by omega) hr gM) (fun r h hq9 => ?_)
        obtain ⟨rfl, rfl⟩ := hq9
        refine g_lconst (n := 1) rfl ?_
        show sGo none 227 _ 210 [some (.ref 60), some (.long (S 6)), none, some (.long (S 5)), none, some (.long (rdS s.1 s.2.1 (m.1 2).toInt ||| besS s.1 (s.1 * s.2.1) (grF s.1 (s.1 * s.2.1) (S 5) ((S 5 &&& rdS s.1 s.2.1 (m.1 2).toInt) &&& S 5)))), none, o7, none, none] [.long (Int64.ofNat 1), .long (besS s.1 (s.1 * s.2.1) (Int64.ofNat 1 <<< ((Int32.ofNat w).toInt64 &&& 63)))] _ _
        refine g_aload_n (i := 0) rfl rfl ?_
        refine g_getfield (v := .int (m.1 3)) rfl hr (by decide) rfl ?_
        rw [hw]
        refine g_lshl rfl ?_
        refine g_lor rfl ?_
        refine g_lstore (i := 7) (L1 := [some (.ref 60), some (.long (S 6)), none, some (.long (S 5)), none, some (.long (rdS s.1 s.2.1 (m.1 2).toInt ||| besS s.1 (s.1 * s.2.1) (grF s.1 (s.1 * s.2.1) (S 5) ((S 5 &&& rdS s.1 s.2.1 (m.1 2).toInt) &&& S 5)))), none, some (.long ((besS s.1 (s.1 * s.2.1) (Int64.ofNat 1 <<< ((Int32.ofNat w).toInt64 &&& 63))) ||| ((Int64.ofNat 1) <<< ((Int32.ofNat w).toInt64 &&& 63)))), none, none]) rfl (Nat.le_of_ble_eq_true rfl) rfl ?_
        refine g_iconst (n := 0) rfl ?_
        refine g_istore (i := 9) (L1 := [some (.ref 60), some (.long (S 6)), none, some (.long (S 5)), none, some (.long (rdS s.1 s.2.1 (m.1 2).toInt ||| besS s.1 (s.1 * s.2.1) (grF s.1 (s.1 * s.2.1) (S 5) ((S 5 &&& rdS s.1 s.2.1 (m.1 2).toInt) &&& S 5)))), none, some (.long ((besS s.1 (s.1 * s.2.1) (Int64.ofNat 1 <<< ((Int32.ofNat w).toInt64 &&& 63))) ||| ((Int64.ofNat 1) <<< ((Int32.ofNat w).toInt64 &&& 63)))), none, some (.int (Int32.ofInt 0))]) rfl (Nat.le_of_ble_eq_true rfl) rfl ?_
        refine s_fn4 (d := d) (R := vdT (fst1 (fltP m s S 5) s.2.2 0) 5 none) hd M gM g r sI sJ P hw hwn (lw.mpr c_1) (fun o7 o8 o9 => ?_) s.2.2 0 (Nat.zero_add _)
        refine g_iconst (n := 0) rfl ?_
        refine g_istore (i := 7) (L1 := [some (.ref 60), some (.long (S 6)), none, some (.long (S 5)), none, some (.long (rdS s.1 s.2.1 (m.1 2).toInt ||| besS s.1 (s.1 * s.2.1) (grF s.1 (s.1 * s.2.1) (S 5) ((S 5 &&& rdS s.1 s.2.1 (m.1 2).toInt) &&& S 5)))), none, some (.int (Int32.ofInt 0)), o8, o9]) rfl (Nat.le_of_ble_eq_true rfl) rfl ?_
        exact s_fn5 (d := d) hd M gM g r sI sJ P h28 s.2.2 0 (Nat.zero_add _)
  · skip
    rw [lc_eq] at c_1
    refine g_aload_n (i := 0) rfl rfl ?_
    refine g_iconst (n := 0) rfl ?_
    rw [if_neg c_1]
    refine g_putfield (h1 := h.set 60 (mO (upd m.1 28 (Int32.ofInt 0)))) rfl hr (by decide) (Nat.le_of_ble_eq_true rfl) rfl rfl ?_
    obtain ⟨j, hj, h1, hl⟩ := low_of c_1
    rw [lowB_of hj h1 hl]
    exact s_fn_22 (h0 := h) (J0 := m.1) (by omega) hj h1 hl j 0 _ _ (Nat.zero_add _) (s_set_eq hr) (fun i hi => u_ne hi) u_at (e60_set e60_rfl)
theorem s_fnow {d : Nat} {h : sHp} {c : CF} {m : MF} {s : Sg} {S : Nat → Int64} (hd : 5 ≤ d) (M : MC h m) (gM : gdM m.1 s.1 s.2.1) (g : gdF c s.1 s.2.1) (r : RB c m) (sI : sgI c s) (sJ : sgJ m.1 s) (P : PT S m.2.2.1 (s.1 * s.2.1)) : sDo d 227 [.ref 60] h (qF h m.1 (vdA m s S)) := by
  refine sDo_of1 (nL := 10) (L := [some (.ref 60), none, none, none, none, none, none, none, none, none]) (by omega) rfl rfl ?_
  refine g_aload_n (i := 0) rfl rfl ?_
  refine g_iconst (n := (-1)) rfl ?_
  refine g_putfield (h1 := h.set 60 (mO (upd m.1 28 (Int32.ofInt (-1))))) rfl M.1 (by decide) (Nat.le_of_ble_eq_true rfl) rfl rfl ?_
  have hj : ∀ j, j < 7 → upd m.1 28 (Int32.ofInt (-1)) j = m.1 j := fun j hj => u_ne (by omega)
  have M1 : MC (h.set 60 (mO (upd m.1 28 (Int32.ofInt (-1))))) ((upd m.1 28 (Int32.ofInt (-1)), m.2) : MF) := MC_0 M
  rw [← vdA_J hj]
  refine sGo_mono (s_fn_5 (d := d - 1) (by omega) M1 ⟨(hj 0 (by decide)).trans gM.1, (hj 1 (by decide)).trans gM.2.1, gM.2.2⟩ g (RB_J7 r hj) sI ⟨(hj 0 (by decide)).trans sJ.1, (hj 1 (by decide)).trans sJ.2.1, (hj 6 (by decide)).trans sJ.2.2.1, sJ.2.2.2⟩ P (show upd m.1 28 (Int32.ofInt (-1)) 28 = Int32.ofInt (-1) from u_at)) (fun r h' q => ?_)
  obtain ⟨J', q1, q2, q3, q4, q5⟩ := q
  exact ⟨J', q1, fun j hj => (q2 j hj).trans (u_ne hj), q3, ⟨q4.1.trans List.length_set, fun q hq => (q4.2 q hq).trans (s_set_ne (Ne.symm hq))⟩, q5⟩
end
section
/-! ===== trying a parting ===== -/
abbrev T3 : Type := Option (Nat × Nat) × Nat
noncomputable def tS (hd : Nat) (ok : Prop) (C C2 : Nat) (t : T3) : T3 := @ite _ (hd < t.2 ∧ ok) (Classical.propDecidable _) (some (C, C2), hd) t
theorem tS_y {hd : Nat} {ok : Prop} {C C2 : Nat} {t : T3} (h : hd < t.2 ∧ ok) : tS hd ok C C2 t = (some (C, C2), hd) := @if_pos _ (Classical.propDecidable _) h _ _ _
theorem tS_n {hd : Nat} {ok : Prop} {C C2 : Nat} {t : T3} (h : ¬ (hd < t.2 ∧ ok)) : tS hd ok C C2 t = t := @if_neg _ (Classical.propDecidable _) h _ _ _
theorem tS_le {hd : Nat} {ok : Prop} {C C2 : Nat} {t : T3} (h : t.2 ≤ 1000) : (tS hd ok C C2 t).2 ≤ 1000 := by
  by_cases z : hd < t.2 ∧ ok
  · rw [tS_y z]; have := z.1; show hd ≤ 1000; omega
  · rw [tS_n z]; exact h
def bsC (B : Nat → Int32) (t : T3) : Prop := (match t.1 with
  | none => B 0 = -1
  | some (a, b) => B 0 = Int32.ofNat a ∧ B 4 = Int32.ofNat b) ∧ B 5 = Int32.ofNat t.2
def bsJ (J : Nat → Int32) (t : T3) : Prop := match t.1 with
  | none => J 34 = -1 ∧ t.2 = 1000
  | some (a, b) => J 32 = Int32.ofNat a ∧ J 33 = Int32.ofNat b ∧ J 34 = Int32.ofNat t.2
def e38 (h h' : sHp) : Prop := h'.length = h.length ∧ ∀ q, q ≠ 38 → h'[q]? = h[q]?
theorem e38_rfl {h : sHp} : e38 h h := ⟨rfl, fun _ _ => rfl⟩
theorem e38_set {h h1 : sHp} {x : va_E} (a : e38 h h1) : e38 h (h1.set 38 x) := ⟨by rw [List.length_set]; exact a.1, fun q hq => by rw [s_set_ne (Ne.symm hq)]; exact a.2 q hq⟩
theorem vdG_b {F : Nat → Nat → Prop} {N : Nat} {f i : Nat} : ∀ (k f0 : Nat), vdG F N k f0 = some (f, i) → f0 ≤ f ∧ f < f0 + k ∧ i < N := by
  intro k
  induction k with
  | zero => intro f0 h; cases h
  | succ k ih =>
    intro f0 h
    have h : vdT (fst1 (F f0) N 0) f0 (vdG F N k (f0 + 1)) = some (f, i) := h
    cases e : fst1 (F f0) N 0 with
    | none =>
      rw [e] at h
      have q := ih (f0 + 1) h
      exact ⟨by omega, by omega, q.2.2⟩
    | some j =>
      rw [e] at h
      have h : some (f0, j) = some (f, i) := h
      cases h
      have q := fst1_lt e
      exact ⟨Nat.le_refl _, by omega, by omega⟩
theorem vdA_b {m : MF} {s : Sg} {S : Nat → Int64} {f i : Nat} (hN : s.2.2 ≤ 5) (h : vdA m s S = some (f, i)) : 1 ≤ f ∧ f ≤ 5 ∧ i ≤ 64 := by
  unfold vdA at h
  by_cases z : S 6 = Int64.ofNat 0
  · rw [if_pos z] at h
    have q := vdG_b 4 2 h
    exact ⟨by omega, by omega, by omega⟩
  · rw [if_neg z] at h
    cases h
    exact ⟨Nat.le_refl _, by decide, cnt_le _⟩
theorem vdI_0 {m : MF} {s : Sg} {S : Nat → Int64} (hN : s.2.2 ≤ 5) : vdI (vdA m s S) = 0 ↔ vdA m s S = none := by
  cases e : vdA m s S with
  | none => exact ⟨fun _ => rfl, fun _ => rfl⟩
  | some p =>
    obtain ⟨f, i⟩ := p
    have b := vdA_b hN e
    refine ⟨fun z => ?_, fun z => by cases z⟩
    have z : Int32.ofNat (100 * f + i) = 0 := z
    have z2 := congrArg Int32.toInt z
    rw [ofC_toInt (by omega)] at z2
    have e0 : (0 : Int32).toInt = 0 := rfl
    omega
theorem fcI_0 {m : MF} {s : Sg} {S : Nat → Int64} (hN : s.2.2 ≤ 5) : fcI (vdA m s S) = 0 ↔ vdA m s S = none := by
  cases e : vdA m s S with
  | none => exact ⟨fun _ => rfl, fun _ => rfl⟩
  | some p =>
    obtain ⟨f, i⟩ := p
    have b := vdA_b hN e
    refine ⟨fun z => ?_, fun z => by cases z⟩
    have z : Int32.ofNat f = 0 := z
    have z2 := congrArg Int32.toInt z
    rw [ofC_toInt (by omega)] at z2
    have e0 : (0 : Int32).toInt = 0 := rfl
    omega
theorem hdN_ext {W H : Nat} {a b : Nat → Int32} (w2 : 2 ≤ W) (w8 : W ≤ 8) (h8 : H ≤ 8) (e : ∀ q, q < W * H → a q = b q) : ∀ q, q ≤ W * H → hdN W (W * H) a q = hdN W (W * H) b q := by
  intro q
  induction q with
  | zero => intro _; rfl
  | succ q ih =>
    intro hq
    have hn := wh_le8 w8 h8
    show hdN W (W * H) a q + (_ + _) = hdN W (W * H) b q + (_ + _)
    have e1 : (if q % W + 1 < W ∧ ¬ a q = a (q + 1) then 1 else 0) = (if q % W + 1 < W ∧ ¬ b q = b (q + 1) then 1 else 0) := by
      by_cases z : q % W + 1 < W
      · rw [e q (by omega), e (q + 1) (nxt_in W (by omega) H (by omega) q (by omega) (by omega) z)]
      · rw [if_neg (fun y => z y.1), if_neg (fun y => z y.1)]
    have e2 : (if q + W < W * H ∧ ¬ a q = a (q + W) then 1 else 0) = (if q + W < W * H ∧ ¬ b q = b (q + W) then 1 else 0) := by
      by_cases z : q + W < W * H
      · rw [e q (by omega), e (q + W) z]
      · rw [if_neg (fun y => z y.1), if_neg (fun y => z y.1)]
    rw [ih (by omega), e1, e2]
theorem s_try11 {d : Nat} {h : sHp} {c : CF} {m : MF} {s : Sg} {S : Nat → Int64} {ow : Nat → Int32} {B : Nat → Int32} {S1 S2 : Int64} {x y : Int32} {C C2 : Nat} {t : T3} (hd : 8 ≤ d) (F : FC h 5 c) (g : gdF c s.1 s.2.1) (r : RB c m) (sI : sgI c s) (hS : h[38]? = some (sO B S1 S2)) (h41 : h[41]? = some (.inl (1, 7, .inr (.inl S)))) (P : PT S ow (s.1 * s.2.1)) (ht : t.2 ≤ 1000) (b : bsC B t) (hx : x = Int32.ofNat C) (hy : y = Int32.ofNat C2) : sDo d 96 [.ref 38, .ref 5, .int x, .int y] h (fun rv h' => rv = none ∧ ∃ B', h'[38]? = some (sO B' S1 S2) ∧ B' 6 = B 6 ∧ bsC B' (tS (hdN s.1 (s.1 * s.2.1) ow (s.1 * s.2.1)) (vdA m s S = none) C C2 t) ∧ e38 h h') := by
  have n5 := sI.2.2.2.2.2.2.2
  have hn := gdF_n g
  have hle := hdN_le (W := s.1) (n := (s.1 * s.2.1)) (ow := ow) (s.1 * s.2.1)
  have eh := ofN_toInt (n := (hdN s.1 (s.1 * s.2.1) ow (s.1 * s.2.1))) (by omega)
  have et : (B 5).toInt = ((t.2 : Nat) : Int) := by rw [b.2]; exact ofC_toInt (by omega)
  have hv0 := vdI_0 (m := m) (S := S) n5
  refine sDo_of1 (nL := 5) (L := [some (.ref 38), some (.ref 5), some (.int x), some (.int y), none]) (by omega) rfl rfl ?_
  refine g_aload_n (i := 1) rfl rfl ?_
  refine g_aload_n (i := 0) rfl rfl ?_
  refine g_getfield (v := .ref 41) rfl hS (by decide) rfl ?_
  refine g_virt1 (Qc := fun r h' => h' = h ∧ r = some (.int (Int32.ofNat (hdN s.1 (s.1 * s.2.1) ow (s.1 * s.2.1))))) rfl (by decide) rfl F.1 rfl (Nat.le_of_ble_eq_true rfl) (s_hedge11 (by omega) F g h41 P) (fun r h hq9 => ?_)
  obtain ⟨rfl, rfl⟩ := hq9
  refine g_istore (i := 4) (L1 := [some (.ref 38), some (.ref 5), some (.int x), some (.int y), some (.int (Int32.ofNat (hdN s.1 (s.1 * s.2.1) ow (s.1 * s.2.1))))]) rfl (Nat.le_of_ble_eq_true rfl) rfl ?_
  refine g_iload (i := 4) rfl rfl ?_
  refine g_aload_n (i := 0) rfl rfl ?_
  refine g_getfield (v := .int (B 5)) rfl hS (by decide) rfl ?_
  refine g_icmp_ge 46 rfl rfl (fun c_1 => ?_) (fun c_1 => ?_)
  · skip
    rw [i_le, eh, et] at c_1
    refine g_return rfl rfl ?_
    refine ⟨rfl, B, hS, rfl, ?_, e38_rfl⟩
    rw [tS_n (fun z => by have := z.1; omega)]
    exact b
  · skip
    rw [i_le, eh, et] at c_1
    refine g_aload_n (i := 1) rfl rfl ?_
    refine g_aload_n (i := 0) rfl rfl ?_
    refine g_getfield (v := .ref 41) rfl hS (by decide) rfl ?_
    refine g_virt1 (Qc := fun r h' => h' = h ∧ r = some (.int (vdI (vdA m s S)))) rfl (by decide) rfl F.1 rfl (Nat.le_of_ble_eq_true rfl) (s_verd11 (by omega) F g r sI h41 P) (fun r h hq9 => ?_)
    obtain ⟨rfl, rfl⟩ := hq9
    refine g_if_ne 46 rfl rfl (fun c_2 => ?_) (fun c_2 => ?_)
    · skip
      refine g_return rfl rfl ?_
      refine ⟨rfl, B, hS, rfl, ?_, e38_rfl⟩
      rw [tS_n (fun z => c_2 (hv0.mpr z.2))]
      exact b
    · skip
      refine g_aload_n (i := 0) rfl rfl ?_
      refine g_iload_n (i := 2) rfl rfl ?_
      refine g_putfield (h1 := h.set 38 (sO (upd B 0 x) S1 S2)) rfl hS (by decide) (Nat.le_of_ble_eq_true rfl) rfl rfl ?_
      have hA : (h.set 38 (sO (upd B 0 x) S1 S2))[38]? = some (sO (upd B 0 x) S1 S2) := s_set_eq hS
      refine g_aload_n (i := 0) rfl rfl ?_
      refine g_iload_n (i := 3) rfl rfl ?_
      refine g_putfield (h1 := h.set 38 (sO (upd (upd B 0 x) 4 y) S1 S2)) rfl hA (by decide) (Nat.le_of_ble_eq_true rfl) rfl (by rw [List.set_set]; rfl) ?_
      have hB : (h.set 38 (sO (upd (upd B 0 x) 4 y) S1 S2))[38]? = some (sO (upd (upd B 0 x) 4 y) S1 S2) := s_set_eq hS
      refine g_aload_n (i := 0) rfl rfl ?_
      refine g_iload (i := 4) rfl rfl ?_
      refine g_putfield (h1 := h.set 38 (sO (upd (upd (upd B 0 x) 4 y) 5 (Int32.ofNat (hdN s.1 (s.1 * s.2.1) ow (s.1 * s.2.1)))) S1 S2)) rfl hB (by decide) (Nat.le_of_ble_eq_true rfl) rfl (by rw [List.set_set]; rfl) ?_
      refine g_return rfl rfl ?_
      have ty : (hdN s.1 (s.1 * s.2.1) ow (s.1 * s.2.1)) < t.2 ∧ vdA m s S = none := ⟨by omega, hv0.mp c_2⟩
      refine ⟨rfl, _, s_set_eq hS, (u_ne (by decide)).trans ((u_ne (by decide)).trans (u_ne (by decide))), ?_, e38_set e38_rfl⟩
      rw [tS_y ty]
      exact ⟨⟨(u_ne (by decide)).trans ((u_ne (by decide)).trans (u_at.trans hx)), (u_ne (by decide)).trans (u_at.trans hy)⟩, u_at⟩
theorem s_try12 {d : Nat} {h : sHp} {c : CF} {m : MF} {s : Sg} {S : Nat → Int64} {x y : Int32} {C C2 : Nat} {t : T3} (hd : 6 ≤ d) (M : MC h m) (gM : gdM m.1 s.1 s.2.1) (g : gdF c s.1 s.2.1) (r : RB c m) (sI : sgI c s) (sJ : sgJ m.1 s) (P : PT S m.2.2.1 (s.1 * s.2.1)) (ht : t.2 ≤ 1000) (b : bsJ m.1 t) (hx : x = Int32.ofNat C) (hy : y = Int32.ofNat C2) : sDo d 234 [.ref 60, .int x, .int y] h (fun rv h' => rv = none ∧ ∃ J', h'[60]? = some (mO J') ∧ (∀ j, j ≠ 28 → j ≠ 32 → j ≠ 33 → j ≠ 34 → J' j = m.1 j) ∧ bsJ J' (tS (hdN s.1 (s.1 * s.2.1) m.2.2.1 (s.1 * s.2.1)) (vdA m s S = none) C C2 t) ∧ e60 h h') := by
  have n5 := sI.2.2.2.2.2.2.2
  have hn := gdF_n g
  have hle := hdN_le (W := s.1) (n := (s.1 * s.2.1)) (ow := m.2.2.1) (s.1 * s.2.1)
  have eh := ofN_toInt (n := (hdN s.1 (s.1 * s.2.1) m.2.2.1 (s.1 * s.2.1))) (by omega)
  have hv0 := fcI_0 (m := m) (S := S) n5
  have em : (-1 : Int32).toInt = -1 := rfl
  obtain ⟨t1, t2⟩ := t
  have ht : t2 ≤ 1000 := ht
  refine sDo_of1 (nL := 4) (L := [some (.ref 60), some (.int x), some (.int y), none]) (by omega) rfl rfl ?_
  rcases t1 with _ | ⟨a, b'⟩
  · have e34 : m.1 34 = -1 := b.1
    have e2 : t2 = 1000 := b.2
    refine g_aload_n (i := 0) rfl rfl ?_
    refine g_virt0 (Qc := fun r h' => h' = h ∧ r = some (.int (Int32.ofNat (hdN s.1 (s.1 * s.2.1) m.2.2.1 (s.1 * s.2.1))))) rfl (by decide) rfl M.1 rfl (Nat.le_of_ble_eq_true rfl) (s_hedge12 (by omega) M gM) (fun r h hq9 => ?_)
    obtain ⟨rfl, rfl⟩ := hq9
    refine g_istore_n (i := 3) (L1 := [some (.ref 60), some (.int x), some (.int y), some (.int (Int32.ofNat (hdN s.1 (s.1 * s.2.1) m.2.2.1 (s.1 * s.2.1))))]) rfl (Nat.le_of_ble_eq_true rfl) rfl ?_
    refine g_aload_n (i := 0) rfl rfl ?_
    refine g_getfield (v := .int (m.1 34)) rfl M.1 (by decide) rfl ?_
    refine g_iconst (n := (-1)) rfl ?_
    refine g_icmp_eq 21 rfl rfl (fun _ => ?_) (fun hc => absurd hc (by exact fun z => z e34))
    refine g_aload_n (i := 0) rfl rfl ?_
    refine g_virt0 rfl (by decide) rfl M.1 rfl (Nat.le_of_ble_eq_true rfl) (s_fnow (d := d - 1) (by omega) M gM g r sI sJ P) (fun rv h2 hq => ?_)
    obtain ⟨J2, hr2, hj2, -, E2, rfl⟩ := hq
    refine g_if_eq 29 rfl rfl (fun c_1 => ?_) (fun c_1 => ?_)
    · skip
      refine g_aload_n (i := 0) rfl rfl ?_
      refine g_iload_n (i := 3) rfl rfl ?_
      refine g_putfield (h1 := h2.set 60 (mO (upd J2 34 (Int32.ofNat (hdN s.1 (s.1 * s.2.1) m.2.2.1 (s.1 * s.2.1)))))) rfl hr2 (by decide) (Nat.le_of_ble_eq_true rfl) rfl rfl ?_
      have hA : (h2.set 60 (mO (upd J2 34 (Int32.ofNat (hdN s.1 (s.1 * s.2.1) m.2.2.1 (s.1 * s.2.1))))))[60]? = some (mO (upd J2 34 (Int32.ofNat (hdN s.1 (s.1 * s.2.1) m.2.2.1 (s.1 * s.2.1))))) := s_set_eq hr2
      refine g_aload_n (i := 0) rfl rfl ?_
      refine g_iload_n (i := 1) rfl rfl ?_
      refine g_putfield (h1 := h2.set 60 (mO (upd (upd J2 34 (Int32.ofNat (hdN s.1 (s.1 * s.2.1) m.2.2.1 (s.1 * s.2.1)))) 32 x))) rfl hA (by decide) (Nat.le_of_ble_eq_true rfl) rfl (by rw [List.set_set]; rfl) ?_
      have hB : (h2.set 60 (mO (upd (upd J2 34 (Int32.ofNat (hdN s.1 (s.1 * s.2.1) m.2.2.1 (s.1 * s.2.1)))) 32 x)))[60]? = some (mO (upd (upd J2 34 (Int32.ofNat (hdN s.1 (s.1 * s.2.1) m.2.2.1 (s.1 * s.2.1)))) 32 x)) := s_set_eq hr2
      refine g_aload_n (i := 0) rfl rfl ?_
      refine g_iload_n (i := 2) rfl rfl ?_
      refine g_putfield (h1 := h2.set 60 (mO (upd (upd (upd J2 34 (Int32.ofNat (hdN s.1 (s.1 * s.2.1) m.2.2.1 (s.1 * s.2.1)))) 32 x) 33 y))) rfl hB (by decide) (Nat.le_of_ble_eq_true rfl) rfl (by rw [List.set_set]; rfl) ?_
      refine g_return rfl rfl ?_
      have ty : (hdN s.1 (s.1 * s.2.1) m.2.2.1 (s.1 * s.2.1)) < ((none, t2) : T3).2 ∧ vdA m s S = none := ⟨by show _ < t2; omega, hv0.mp c_1⟩
      refine ⟨rfl, _, s_set_eq hr2, fun j j1 j2 j3 j4 => (u_ne j3).trans ((u_ne j2).trans ((u_ne j4).trans (hj2 j j1))), ?_, e60_set E2⟩
      rw [tS_y ty]
      exact ⟨(u_ne (by decide)).trans (u_at.trans hx), u_at.trans hy, (u_ne (by decide)).trans ((u_ne (by decide)).trans u_at)⟩
    · skip
      refine g_return rfl rfl ?_
      refine ⟨rfl, J2, hr2, fun j j1 j2 j3 j4 => hj2 j j1, ?_, E2⟩
      rw [tS_n (fun z => c_1 (hv0.mpr z.2))]
      exact ⟨(hj2 34 (by decide)).trans e34, e2⟩
  · have b : m.1 32 = Int32.ofNat a ∧ m.1 33 = Int32.ofNat b' ∧ m.1 34 = Int32.ofNat t2 := b
    have et : (m.1 34).toInt = ((t2 : Nat) : Int) := by rw [b.2.2]; exact ofC_toInt (by omega)
    refine g_aload_n (i := 0) rfl rfl ?_
    refine g_virt0 (Qc := fun r h' => h' = h ∧ r = some (.int (Int32.ofNat (hdN s.1 (s.1 * s.2.1) m.2.2.1 (s.1 * s.2.1))))) rfl (by decide) rfl M.1 rfl (Nat.le_of_ble_eq_true rfl) (s_hedge12 (by omega) M gM) (fun r h hq9 => ?_)
    obtain ⟨rfl, rfl⟩ := hq9
    refine g_istore_n (i := 3) (L1 := [some (.ref 60), some (.int x), some (.int y), some (.int (Int32.ofNat (hdN s.1 (s.1 * s.2.1) m.2.2.1 (s.1 * s.2.1))))]) rfl (Nat.le_of_ble_eq_true rfl) rfl ?_
    refine g_aload_n (i := 0) rfl rfl ?_
    refine g_getfield (v := .int (m.1 34)) rfl M.1 (by decide) rfl ?_
    refine g_iconst (n := (-1)) rfl ?_
    refine g_icmp_eq 21 rfl rfl (fun hc => absurd hc (by intro z; have z := congrArg Int32.toInt z; rw [et] at z; have e1 : (Int32.ofInt (-1)).toInt = -1 := rfl; omega)) (fun _ => ?_)
    refine g_iload_n (i := 3) rfl rfl ?_
    refine g_aload_n (i := 0) rfl rfl ?_
    refine g_getfield (v := .int (m.1 34)) rfl M.1 (by decide) rfl ?_
    refine g_icmp_ge 28 rfl rfl (fun c_1 => ?_) (fun c_1 => ?_)
    · skip
      rw [i_le, eh, et] at c_1
      refine g_return rfl rfl ?_
      refine ⟨rfl, m.1, M.1, fun _ _ _ _ _ => rfl, ?_, e60_rfl⟩
      rw [tS_n (fun z => by have z1 := z.1; dsimp only at z1; omega)]
      exact b
    · skip
      rw [i_le, eh, et] at c_1
      refine g_aload_n (i := 0) rfl rfl ?_
      refine g_virt0 rfl (by decide) rfl M.1 rfl (Nat.le_of_ble_eq_true rfl) (s_fnow (d := d - 1) (by omega) M gM g r sI sJ P) (fun rv h2 hq => ?_)
      obtain ⟨J2, hr2, hj2, -, E2, rfl⟩ := hq
      refine g_if_eq 29 rfl rfl (fun c_2 => ?_) (fun c_2 => ?_)
      · skip
        refine g_aload_n (i := 0) rfl rfl ?_
        refine g_iload_n (i := 3) rfl rfl ?_
        refine g_putfield (h1 := h2.set 60 (mO (upd J2 34 (Int32.ofNat (hdN s.1 (s.1 * s.2.1) m.2.2.1 (s.1 * s.2.1)))))) rfl hr2 (by decide) (Nat.le_of_ble_eq_true rfl) rfl rfl ?_
        have hA : (h2.set 60 (mO (upd J2 34 (Int32.ofNat (hdN s.1 (s.1 * s.2.1) m.2.2.1 (s.1 * s.2.1))))))[60]? = some (mO (upd J2 34 (Int32.ofNat (hdN s.1 (s.1 * s.2.1) m.2.2.1 (s.1 * s.2.1))))) := s_set_eq hr2
        refine g_aload_n (i := 0) rfl rfl ?_
        refine g_iload_n (i := 1) rfl rfl ?_
        refine g_putfield (h1 := h2.set 60 (mO (upd (upd J2 34 (Int32.ofNat (hdN s.1 (s.1 * s.2.1) m.2.2.1 (s.1 * s.2.1)))) 32 x))) rfl hA (by decide) (Nat.le_of_ble_eq_true rfl) rfl (by rw [List.set_set]; rfl) ?_
        have hB : (h2.set 60 (mO (upd (upd J2 34 (Int32.ofNat (hdN s.1 (s.1 * s.2.1) m.2.2.1 (s.1 * s.2.1)))) 32 x)))[60]? = some (mO (upd (upd J2 34 (Int32.ofNat (hdN s.1 (s.1 * s.2.1) m.2.2.1 (s.1 * s.2.1)))) 32 x)) := s_set_eq hr2
        refine g_aload_n (i := 0) rfl rfl ?_
        refine g_iload_n (i := 2) rfl rfl ?_
        refine g_putfield (h1 := h2.set 60 (mO (upd (upd (upd J2 34 (Int32.ofNat (hdN s.1 (s.1 * s.2.1) m.2.2.1 (s.1 * s.2.1)))) 32 x) 33 y))) rfl hB (by decide) (Nat.le_of_ble_eq_true rfl) rfl (by rw [List.set_set]; rfl) ?_
        refine g_return rfl rfl ?_
        have ty : (hdN s.1 (s.1 * s.2.1) m.2.2.1 (s.1 * s.2.1)) < ((some (a, b'), t2) : T3).2 ∧ vdA m s S = none := ⟨by show _ < t2; omega, hv0.mp c_2⟩
        refine ⟨rfl, _, s_set_eq hr2, fun j j1 j2 j3 j4 => (u_ne j3).trans ((u_ne j2).trans ((u_ne j4).trans (hj2 j j1))), ?_, e60_set E2⟩
        rw [tS_y ty]
        exact ⟨(u_ne (by decide)).trans (u_at.trans hx), u_at.trans hy, (u_ne (by decide)).trans ((u_ne (by decide)).trans u_at)⟩
      · skip
        refine g_return rfl rfl ?_
        refine ⟨rfl, J2, hr2, fun j j1 j2 j3 j4 => hj2 j j1, ?_, E2⟩
        rw [tS_n (fun z => c_2 (hv0.mpr z.2))]
        exact ⟨(hj2 32 (by decide)).trans b.1, (hj2 33 (by decide)).trans b.2.1, (hj2 34 (by decide)).trans b.2.2⟩
theorem s_save12_go {d : Nat} {h0 : sHp} {J ow sp : Nat → Int32} (hr : h0[60]? = some (mO J)) (h63 : h0[63]? = some (.inl (0, 64, .inl ow))) (h77 : h0[77]? = some (.inl (0, 64, .inl sp))) : ∀ (f k : Nat), k + f = 64 → sGo none 233 d 2 [some (.ref 60), some (.int (Int32.ofInt 0)), some (.int (Int32.ofNat k))] [] (h0.set 77 (.inl (0, 64, .inl (fun i => if i < k then ow i else sp i)))) (fun r h' => r = none ∧ h' = h0.set 77 (.inl (0, 64, .inl (fun i => if i < 64 then ow i else sp i)))) := by
  have e64 : (Int8.ofInt 64).toInt32.toInt = ((64 : Nat) : Int) := rfl
  intro f
  induction f with
  | zero =>
    intro k hk
    have k64 : k = 64 := by omega
    subst k64
    have ek := ofN_toInt (n := 64) (by decide)
    have hr1 : (h0.set 77 (.inl (0, 64, .inl (fun i => if i < 64 then ow i else sp i))))[60]? = some (mO J) := by rw [s_set_ne (by decide)]; exact hr
    refine g_iload_n (i := 2) rfl rfl ?_
    refine g_bipush (n := 64) rfl ?_
    refine g_icmp_ge 45 rfl rfl (fun _ => ?_) (fun hc => absurd hc (by exact fun z => z (by decide)))
    refine g_return rfl rfl ?_
    exact ⟨rfl, rfl⟩
  | succ f ih =>
    intro k hk
    have ek := ofN_toInt (n := k) (by omega)
    have hr1 : (h0.set 77 (.inl (0, 64, .inl (fun i => if i < k then ow i else sp i))))[60]? = some (mO J) := by rw [s_set_ne (by decide)]; exact hr
    have hs1 : (h0.set 77 (.inl (0, 64, .inl (fun i => if i < k then ow i else sp i))))[63]? = some (.inl (0, 64, .inl ow)) := by rw [s_set_ne (by decide)]; exact h63
    have hd1 : (h0.set 77 (.inl (0, 64, .inl (fun i => if i < k then ow i else sp i))))[77]? = some (.inl (0, 64, .inl (fun i => if i < k then ow i else sp i))) := s_set_eq h77
    have ef : upd (fun i => if i < k then ow i else sp i) k (ow k) = (fun i => if i < (k + 1) then ow i else sp i) := funext fun i => by
      by_cases e : i = k
      · rw [e, u_at]; exact (if_pos (by omega)).symm
      · rw [u_ne e]
        by_cases l : i < k
        · exact (if_pos l).trans (if_pos (by omega)).symm
        · exact (if_neg l).trans (if_neg (by omega)).symm
    refine g_iload_n (i := 2) rfl rfl ?_
    refine g_bipush (n := 64) rfl ?_
    refine g_icmp_ge 45 rfl rfl (fun hc => absurd hc (by rw [i_le, e64, ek]; omega)) (fun _ => ?_)
    refine g_iload_n (i := 1) rfl rfl ?_
    refine g_if_eq 27 rfl rfl (fun _ => ?_) (fun hc => absurd hc (by decide))
    refine g_aload_n (i := 0) rfl rfl ?_
    refine g_getfield (v := .ref 77) rfl hr1 (by decide) rfl ?_
    refine g_iload_n (i := 2) rfl rfl ?_
    refine g_aload_n (i := 0) rfl rfl ?_
    refine g_getfield (v := .ref 63) rfl hr1 (by decide) rfl ?_
    refine g_iload_n (i := 2) rfl rfl ?_
    refine g_iaload (n := 64) (f := ow) rfl hs1 (i_in (by omega) (by omega)) ?_
    rw [i_nat ek]
    refine g_iastore (n := 64) (f := (fun i => if i < k then ow i else sp i)) (h1 := h0.set 77 (.inl (0, 64, .inl (fun i => if i < (k + 1) then ow i else sp i)))) rfl hd1 (i_in (by omega) (by omega)) (by rw [i_nat ek, List.set_set, ef]) ?_
    refine g_iinc (i := 2) (L1 := [some (.ref 60), some (.int (Int32.ofInt 0)), some (.int ((Int32.ofNat k) + Int32.ofInt 1))]) rfl rfl rfl ?_
    rw [ofN_add (by omega)]
    refine g_goto 2 rfl rfl ?_
    exact ih (k + 1) (by omega)
theorem s_save12 {d : Nat} {h0 : sHp} {J ow sp : Nat → Int32} (hd : 1 ≤ d) (hr : h0[60]? = some (mO J)) (h63 : h0[63]? = some (.inl (0, 64, .inl ow))) (h77 : h0[77]? = some (.inl (0, 64, .inl sp))) : sDo d 233 [.ref 60, .int (Int32.ofInt 0)] h0 (fun r h' => r = none ∧ h' = h0.set 77 (.inl (0, 64, .inl (fun i => if i < 64 then ow i else sp i)))) := by
  refine sDo_of1 (nL := 3) (L := [some (.ref 60), some (.int (Int32.ofInt 0)), none]) (by omega) rfl rfl ?_
  have e0 : h0 = h0.set 77 (.inl (0, 64, .inl (fun i => if i < 0 then ow i else sp i))) := (List.ext_getElem? (fun i => by
    by_cases e : i = 77
    · rw [e, s_set_eq h77, h77]
      exact congrArg (fun f => (some (.inl (0, 64, .inl f)) : Option va_E)) (funext fun i => (if_neg (Nat.not_lt_zero i)).symm)
    · rw [s_set_ne (Ne.symm e)]))
  refine g_iconst (n := 0) rfl ?_
  refine g_istore_n (i := 2) (L1 := [some (.ref 60), some (.int (Int32.ofInt 0)), some (.int (Int32.ofInt 0))]) rfl (Nat.le_of_ble_eq_true rfl) rfl ?_
  have key := s_save12_go (d := d - 1) hr h63 h77 64 0 (by decide)
  rw [← e0] at key
  exact key
theorem s_back12_go {d : Nat} {h0 : sHp} {J ow sp : Nat → Int32} (hr : h0[60]? = some (mO J)) (h63 : h0[63]? = some (.inl (0, 64, .inl ow))) (h77 : h0[77]? = some (.inl (0, 64, .inl sp))) : ∀ (f k : Nat), k + f = 64 → sGo none 233 d 2 [some (.ref 60), some (.int (Int32.ofInt 1)), some (.int (Int32.ofNat k))] [] (h0.set 63 (.inl (0, 64, .inl (fun i => if i < k then sp i else ow i)))) (fun r h' => r = none ∧ h' = h0.set 63 (.inl (0, 64, .inl (fun i => if i < 64 then sp i else ow i)))) := by
  have e64 : (Int8.ofInt 64).toInt32.toInt = ((64 : Nat) : Int) := rfl
  intro f
  induction f with
  | zero =>
    intro k hk
    have k64 : k = 64 := by omega
    subst k64
    have ek := ofN_toInt (n := 64) (by decide)
    have hr1 : (h0.set 63 (.inl (0, 64, .inl (fun i => if i < 64 then sp i else ow i))))[60]? = some (mO J) := by rw [s_set_ne (by decide)]; exact hr
    refine g_iload_n (i := 2) rfl rfl ?_
    refine g_bipush (n := 64) rfl ?_
    refine g_icmp_ge 45 rfl rfl (fun _ => ?_) (fun hc => absurd hc (by exact fun z => z (by decide)))
    refine g_return rfl rfl ?_
    exact ⟨rfl, rfl⟩
  | succ f ih =>
    intro k hk
    have ek := ofN_toInt (n := k) (by omega)
    have hr1 : (h0.set 63 (.inl (0, 64, .inl (fun i => if i < k then sp i else ow i))))[60]? = some (mO J) := by rw [s_set_ne (by decide)]; exact hr
    have hs1 : (h0.set 63 (.inl (0, 64, .inl (fun i => if i < k then sp i else ow i))))[77]? = some (.inl (0, 64, .inl sp)) := by rw [s_set_ne (by decide)]; exact h77
    have hd1 : (h0.set 63 (.inl (0, 64, .inl (fun i => if i < k then sp i else ow i))))[63]? = some (.inl (0, 64, .inl (fun i => if i < k then sp i else ow i))) := s_set_eq h63
    have ef : upd (fun i => if i < k then sp i else ow i) k (sp k) = (fun i => if i < (k + 1) then sp i else ow i) := funext fun i => by
      by_cases e : i = k
      · rw [e, u_at]; exact (if_pos (by omega)).symm
      · rw [u_ne e]
        by_cases l : i < k
        · exact (if_pos l).trans (if_pos (by omega)).symm
        · exact (if_neg l).trans (if_neg (by omega)).symm
    refine g_iload_n (i := 2) rfl rfl ?_
    refine g_bipush (n := 64) rfl ?_
    refine g_icmp_ge 45 rfl rfl (fun hc => absurd hc (by rw [i_le, e64, ek]; omega)) (fun _ => ?_)
    refine g_iload_n (i := 1) rfl rfl ?_
    refine g_if_eq 27 rfl rfl (fun hc => absurd hc (by decide)) (fun _ => ?_)
    refine g_aload_n (i := 0) rfl rfl ?_
    refine g_getfield (v := .ref 63) rfl hr1 (by decide) rfl ?_
    refine g_iload_n (i := 2) rfl rfl ?_
    refine g_aload_n (i := 0) rfl rfl ?_
    refine g_getfield (v := .ref 77) rfl hr1 (by decide) rfl ?_
    refine g_iload_n (i := 2) rfl rfl ?_
    refine g_iaload (n := 64) (f := sp) rfl hs1 (i_in (by omega) (by omega)) ?_
    rw [i_nat ek]
    refine g_iastore (n := 64) (f := (fun i => if i < k then sp i else ow i)) (h1 := h0.set 63 (.inl (0, 64, .inl (fun i => if i < (k + 1) then sp i else ow i)))) rfl hd1 (i_in (by omega) (by omega)) (by rw [i_nat ek, List.set_set, ef]) ?_
    refine g_goto 39 rfl rfl ?_
    refine g_iinc (i := 2) (L1 := [some (.ref 60), some (.int (Int32.ofInt 1)), some (.int ((Int32.ofNat k) + Int32.ofInt 1))]) rfl rfl rfl ?_
    rw [ofN_add (by omega)]
    refine g_goto 2 rfl rfl ?_
    exact ih (k + 1) (by omega)
theorem s_back12 {d : Nat} {h0 : sHp} {J ow sp : Nat → Int32} (hd : 1 ≤ d) (hr : h0[60]? = some (mO J)) (h63 : h0[63]? = some (.inl (0, 64, .inl ow))) (h77 : h0[77]? = some (.inl (0, 64, .inl sp))) : sDo d 233 [.ref 60, .int (Int32.ofInt 1)] h0 (fun r h' => r = none ∧ h' = h0.set 63 (.inl (0, 64, .inl (fun i => if i < 64 then sp i else ow i)))) := by
  refine sDo_of1 (nL := 3) (L := [some (.ref 60), some (.int (Int32.ofInt 1)), none]) (by omega) rfl rfl ?_
  have e0 : h0 = h0.set 63 (.inl (0, 64, .inl (fun i => if i < 0 then sp i else ow i))) := (List.ext_getElem? (fun i => by
    by_cases e : i = 63
    · rw [e, s_set_eq h63, h63]
      exact congrArg (fun f => (some (.inl (0, 64, .inl f)) : Option va_E)) (funext fun i => (if_neg (Nat.not_lt_zero i)).symm)
    · rw [s_set_ne (Ne.symm e)]))
  refine g_iconst (n := 0) rfl ?_
  refine g_istore_n (i := 2) (L1 := [some (.ref 60), some (.int (Int32.ofInt 1)), some (.int (Int32.ofInt 0))]) rfl (Nat.le_of_ble_eq_true rfl) rfl ?_
  have key := s_back12_go (d := d - 1) hr h63 h77 64 0 (by decide)
  rw [← e0] at key
  exact key
end
section
/-! ===== the best cut into two ===== -/
def ST (ow : Nat → Int32) (n : Nat) : Nat → Int64 := fun k => stO (fun q => decide (ow q = cdS k)) n
theorem PT_ST {ow : Nat → Int32} {n : Nat} (h : ∀ q, q < n → ∃ k, k < 7 ∧ ow q = cdS k) : PT (ST ow n) ow n := ⟨fun _ _ => rfl, h⟩
theorem fst1_ext {P P' : Nat → Prop} : ∀ {f i : Nat}, (∀ j, i ≤ j → j < i + f → (P j ↔ P' j)) → fst1 P f i = fst1 P' f i := by
  intro f
  induction f with
  | zero => intro i _; rfl
  | succ f ih =>
    intro i h
    have k := ih (i := i + 1) (fun j h1 h2 => h j (by omega) (by omega))
    by_cases z : P i
    · rw [fst1_y z, fst1_y ((h i (Nat.le_refl _) (by omega)).mp z)]
    · rw [fst1_n z, fst1_n (fun y => z ((h i (Nat.le_refl _) (by omega)).mpr y)), k]
theorem fltP_ext {m : MF} {s : Sg} {S S' : Nat → Int64} (h : ∀ k, k < 7 → S k = S' k) (f i : Nat) (hi : i < 5) : fltP m s S f i ↔ fltP m s S' f i := by
  unfold fltP
  rw [h i (by omega), h 5 (by decide)]
theorem vdG_ext {F F' : Nat → Nat → Prop} {N : Nat} (h : ∀ f i, i < N → (F f i ↔ F' f i)) : ∀ k f, vdG F N k f = vdG F' N k f := by
  intro k
  induction k with
  | zero => intro f; rfl
  | succ k ih =>
    intro f
    show vdT (fst1 (F f) N 0) f (vdG F N k (f + 1)) = vdT (fst1 (F' f) N 0) f (vdG F' N k (f + 1))
    rw [ih, fst1_ext (fun j _ h2 => h f j (by omega))]
theorem vdA_ext {m : MF} {s : Sg} {S S' : Nat → Int64} (hN : s.2.2 ≤ 5) (h : ∀ k, k < 7 → S k = S' k) : vdA m s S = vdA m s S' := by
  unfold vdA
  rw [h 6 (by decide), vdG_ext (fun f i hi => fltP_ext h f i (by omega))]
theorem vdA_PT {m : MF} {s : Sg} {S : Nat → Int64} {ow : Nat → Int32} {n : Nat} (hN : s.2.2 ≤ 5) (P : PT S ow n) : vdA m s S = vdA m s (ST ow n) := vdA_ext hN P.1
def owT (W C w : Nat) : Nat → Int32 := fun q => if isF W C q = true then Int32.ofNat w else Int32.ofNat (1 - w)
theorem owT_in {W C w q : Nat} (hw : w ≤ 1) : ∃ k, k < 7 ∧ owT W C w q = cdS k := by
  unfold owT
  by_cases z : isF W C q = true
  · rw [if_pos z]; exact ⟨w, by omega, (cdS_lt (by omega)).symm⟩
  · rw [if_neg z]; exact ⟨1 - w, by omega, (cdS_lt (by omega)).symm⟩
def setT (T : Nat → Int64) (W n C w : Nat) : Nat → Int64 := vp_updL (vp_updL T w (fsS W n C)) (1 - w) (stO (fun _ => true) n &&& (fsS W n C ^^^ Int64.ofNat 18446744073709551615))
theorem setT_0 {T : Nat → Int64} {W n C w : Nat} (h : ∀ k, 2 ≤ k → k < 7 → T k = Int64.ofNat 0) (hw : w ≤ 1) : ∀ k, 2 ≤ k → k < 7 → setT T W n C w k = Int64.ofNat 0 := fun k h2 h7 => by
  unfold setT
  rw [show vp_updL (vp_updL T w (fsS W n C)) (1 - w) (stO (fun _ => true) n &&& (fsS W n C ^^^ Int64.ofNat 18446744073709551615)) k = vp_updL T w (fsS W n C) k from if_neg (by omega), show vp_updL T w (fsS W n C) k = T k from if_neg (by omega)]
  exact h k h2 h7
theorem PT_two {T : Nat → Int64} {W n C w : Nat} (hn : n ≤ 64) (h : ∀ k, 2 ≤ k → k < 7 → T k = Int64.ofNat 0) (hw : w ≤ 1) : PT (setT T W n C w) (owT W C w) n := by
  refine ⟨fun k hk => ?_, fun q _ => owT_in hw⟩
  have cw := cdS_lt (i := w) (by omega)
  have cv := cdS_lt (i := 1 - w) (by omega)
  by_cases k1 : k = 1 - w
  · subst k1
    unfold setT
    rw [show vp_updL (vp_updL T w (fsS W n C)) (1 - w) (stO (fun _ => true) n &&& (fsS W n C ^^^ Int64.ofNat 18446744073709551615)) (1 - w) = stO (fun _ => true) n &&& (fsS W n C ^^^ lM1) from if_pos rfl]
    unfold fsS
    refine st_andn hn (fun q _ => ?_)
    unfold owT
    by_cases z : isF W C q = true
    · rw [if_pos z, z, ← cw, decide_eq_false (fun e => by have := cdS_inj (by omega) (by omega) e; omega)]; rfl
    · rw [if_neg z, nTF z, cv, decide_eq_true rfl]; rfl
  · by_cases k2 : k = w
    · subst k2
      unfold setT
      rw [show vp_updL (vp_updL T k (fsS W n C)) (1 - k) (stO (fun _ => true) n &&& (fsS W n C ^^^ Int64.ofNat 18446744073709551615)) k = vp_updL T k (fsS W n C) k from if_neg k1, show vp_updL T k (fsS W n C) k = fsS W n C from if_pos rfl]
      unfold fsS
      refine stO_ext hn (fun q _ => ?_)
      unfold owT
      by_cases z : isF W C q = true
      · rw [if_pos z, z, cw, decide_eq_true rfl]
      · rw [if_neg z, nTF z, ← cv, decide_eq_false (fun e => by have := cdS_inj (by omega) (by omega) e; omega)]
    · rw [setT_0 h hw k (by omega) hk]
      refine (stO_no hn (fun q _ => ?_)).symm
      unfold owT
      by_cases z : isF W C q = true
      · rw [if_pos z, ← cw]; exact decide_eq_false (fun e => k2 (cdS_inj (by omega) hk e).symm)
      · rw [if_neg z, ← cv]; exact decide_eq_false (fun e => k1 (cdS_inj (by omega) hk e).symm)
/-- a parting tried -/
noncomputable def trS (m : MF) (s : Sg) (C C2 : Nat) (ow : Nat → Int32) (t : T3) : T3 := tS (hdN s.1 (s.1 * s.2.1) ow (s.1 * s.2.1)) (vdA m s (ST ow (s.1 * s.2.1)) = none) C C2 t
noncomputable def twL (m : MF) (s : Sg) : List Nat → T3 → T3
  | [], t => t
  | C :: L, t => twL m s L (trS m s C 1 (owT s.1 C 1) (trS m s C 0 (owT s.1 C 0) t))
theorem trS_le {m : MF} {s : Sg} {C C2 : Nat} {ow : Nat → Int32} {t : T3} (h : t.2 ≤ 1000) : (trS m s C C2 ow t).2 ≤ 1000 := tS_le h
theorem twL_le {m : MF} {s : Sg} : ∀ {L : List Nat} {t : T3}, t.2 ≤ 1000 → (twL m s L t).2 ≤ 1000 := by
  intro L
  induction L with
  | nil => intro t h; exact h
  | cons C L ih => intro t h; exact ih (trS_le (trS_le h))
def tcE (h h' : sHp) : Prop := h'.length = h.length ∧ ∀ q, (q < 38 ∨ 41 < q) → h'[q]? = h[q]?
theorem tcE_rfl {h : sHp} : tcE h h := ⟨rfl, fun _ _ => rfl⟩
theorem tcE_38 {h h1 h2 : sHp} (a : tcE h h1) (b : e38 h1 h2) : tcE h h2 := ⟨b.1.trans a.1, fun q hq => (b.2 q (by omega)).trans (a.2 q hq)⟩
theorem tcE_set {h h1 : sHp} {q : Nat} {x : va_E} (a : tcE h h1) (hq : 38 ≤ q ∧ q ≤ 41) : tcE h (h1.set q x) := ⟨by rw [List.length_set]; exact a.1, fun p hp => by rw [s_set_ne (by omega)]; exact a.2 p hp⟩
theorem tcE_sc {h h1 h2 : sHp} (a : tcE h h1) (b : scE h1 h2) : tcE h h2 := ⟨b.1.trans a.1, fun q hq => (b.2 q (by omega)).trans (a.2 q hq)⟩
theorem two_go {P R L : List Nat} {C : Nat} (hL : L = P ++ C :: R) : L[P.length]? = some C ∧ L = (P ++ [C]) ++ R ∧ (P ++ [C]).length = P.length + 1 ∧ L.length = P.length + (R.length + 1) := ⟨by rw [hL, List.getElem?_append_right (Nat.le_refl _), Nat.sub_self]; rfl, by rw [hL, List.append_assoc]; rfl, by rw [List.length_append]; rfl, by rw [hL, List.length_append, List.length_cons]⟩
theorem bsC_0 {B : Nat → Int32} {t : T3} (b : bsC B t) : B 0 = Int32.ofInt (-1) ↔ t.1 = none ∨ ∃ a c, t.1 = some (a, c) ∧ Int32.ofNat a = Int32.ofInt (-1) := by
  obtain ⟨t1, t2⟩ := t
  rcases t1 with _ | ⟨a, c⟩
  · exact ⟨fun _ => Or.inl rfl, fun _ => b.1⟩
  · have b1 : B 0 = Int32.ofNat a := b.1.1
    refine ⟨fun z => Or.inr ⟨a, c, rfl, b1.symm.trans z⟩, fun z => ?_⟩
    rcases z with z | ⟨a', c', e, z⟩
    · cases z
    · cases e; exact b1.trans z
/-- the codes found are codes -/
def cdI (t : T3) : Prop := ∀ a c, t.1 = some (a, c) → a < 100000
theorem cdI_tr {m : MF} {s : Sg} {C C2 : Nat} {ow : Nat → Int32} {t : T3} (h : cdI t) (hC : C < 100000) : cdI (trS m s C C2 ow t) := by
  unfold trS
  by_cases z : hdN s.1 (s.1 * s.2.1) ow (s.1 * s.2.1) < t.2 ∧ vdA m s (ST ow (s.1 * s.2.1)) = none
  · rw [tS_y z]; intro a c e; cases e; exact hC
  · rw [tS_n z]; exact h
theorem bsC_n {B : Nat → Int32} {t : T3} (b : bsC B t) (hc : cdI t) : B 0 = Int32.ofInt (-1) ↔ t.1 = none := by
  rw [bsC_0 b]
  refine ⟨fun z => ?_, fun z => Or.inl z⟩
  rcases z with z | ⟨a, c, e, z⟩
  · exact z
  · have := hc a c e
    have z2 := congrArg Int32.toInt z
    rw [ofC_toInt this] at z2
    have e1 : (Int32.ofInt (-1)).toInt = -1 := rfl
    omega
theorem s_two11_go {d : Nat} {h0 : sHp} {c : CF} {m : MF} {s : Sg} {L : List Nat} {fc : Nat → Int32} {ff : Nat → Int64} {S1 S2 : Int64} (hd : 8 ≤ d) (g : gdF c s.1 s.2.1) (r : RB c m) (sI : sgI c s) (hk : ∀ C ∈ L, C < 7000 ∧ ¬ C / 1000 = 3) (hl : L.length ≤ 644) (p1 : ∀ j C, L[j]? = some C → fc j = Int32.ofNat C) (p2 : ∀ j C, L[j]? = some C → ff j = fsS s.1 (s.1 * s.2.1) C) : ∀ (R P : List Nat) (t : T3) (B : Nat → Int32) (T : Nat → Int64) (h : sHp) (o3 : Option Value), L = P ++ R → cdI t → FC h 5 c → h[38]? = some (sO B S1 S2) → B 6 = Int32.ofNat L.length → bsC B t → t.2 ≤ 1000 → h[39]? = some (.inl (0, 644, .inl fc)) → h[40]? = some (.inl (1, 644, .inr (.inl ff))) → h[41]? = some (.inl (1, 7, .inr (.inl T))) → (∀ k, 2 ≤ k → k < 7 → T k = Int64.ofNat 0) → tcE h0 h → sGo none 97 d 33 [some (.ref 38), some (.ref 5), some (.int (Int32.ofNat P.length)), o3] [] h (fun rv h' => (rv = some (.int 1) ∧ (twL m s R t).1 ≠ none ∨ rv = some (.int 0) ∧ (twL m s R t).1 = none) ∧ tcE h0 h' ∧ ∃ B', h'[38]? = some (sO B' S1 S2) ∧ bsC B' (twL m s R t)) := by
  have hn := gdF_n g
  have n5 := sI.2.2.2.2.2.2.2
  have g2 : c.2.1 2 = stO (fun _ => true) (s.1 * s.2.1) := g.2.2.2.2.2.2.1
  intro R
  induction R with
  | nil =>
    intro P t B T h o3 hL hc F hS b6 b ht h39 h40 h41 hT E
    rw [List.append_nil] at hL
    subst hL
    have el := ofN_toInt (n := L.length) (by omega)
    have e6 : (B 6).toInt = ((L.length : Nat) : Int) := by rw [b6]; exact el
    have e0 := bsC_n b hc
    refine g_iload_n (i := 2) rfl rfl ?_
    refine g_aload_n (i := 0) rfl rfl ?_
    refine g_getfield (v := .int (B 6)) rfl hS (by decide) rfl ?_
    refine g_icmp_ge 107 rfl rfl (fun _ => ?_) (fun hc => absurd hc (by rw [i_le, e6, el]; omega))
    refine g_aload_n (i := 0) rfl rfl ?_
    refine g_getfield (v := .int (B 0)) rfl hS (by decide) rfl ?_
    refine g_iconst (n := (-1)) rfl ?_
    refine g_icmp_eq 119 rfl rfl (fun c_1 => ?_) (fun c_1 => ?_)
    · skip
      refine g_iconst (n := 0) rfl ?_
      refine g_ireturn (ty := .boolean) rfl rfl (by decide) ?_
      exact ⟨Or.inr ⟨rfl, e0.mp c_1⟩, E, B, hS, b⟩
    · skip
      refine g_iconst (n := 1) rfl ?_
      refine g_goto 120 rfl rfl ?_
      refine g_ireturn (ty := .boolean) rfl rfl (by decide) ?_
      exact ⟨Or.inl ⟨rfl, fun z => c_1 (e0.mpr z)⟩, E, B, hS, b⟩
  | cons C R ih =>
    intro P t B T h o3 hL hc F hS b6 b ht h39 h40 h41 hT E
    obtain ⟨hat, hL2, hP1, hlen⟩ := two_go hL
    have el := ofN_toInt (n := P.length) (by omega)
    have e6 : (B 6).toInt = ((L.length : Nat) : Int) := by rw [b6]; exact ofN_toInt (by omega)
    have hC := hk C (by rw [hL]; exact List.mem_append_right _ (List.mem_cons_self ..))
    have hff := p2 P.length C hat
    have hfc := p1 P.length C hat
    have ez : (Int32.ofInt 0).toInt = ((0 : Nat) : Int) := rfl
    have eo : (Int32.ofInt 1).toInt = ((1 : Nat) : Int) := rfl
    refine g_iload_n (i := 2) rfl rfl ?_
    refine g_aload_n (i := 0) rfl rfl ?_
    refine g_getfield (v := .int (B 6)) rfl hS (by decide) rfl ?_
    refine g_icmp_ge 107 rfl rfl (fun hc => absurd hc (by rw [i_le, e6, el]; omega)) (fun _ => ?_)
    refine g_iconst (n := 0) rfl ?_
    refine g_istore_n (i := 3) (L1 := [some (.ref 38), some (.ref 5), some (.int (Int32.ofNat P.length)), some (.int (Int32.ofInt 0))]) rfl (Nat.le_of_ble_eq_true rfl) rfl ?_
    show sGo none 97 _ 43 [some (.ref 38), some (.ref 5), some (.int (Int32.ofNat P.length)), some (.int (Int32.ofInt 0))] [] _ _
    refine g_iload_n (i := 3) rfl rfl ?_
    refine g_iconst (n := 2) rfl ?_
    refine g_icmp_ge 101 rfl rfl (fun hc => absurd hc (by decide)) (fun _ => ?_)
    refine g_aload_n (i := 0) rfl rfl ?_
    refine g_getfield (v := .ref 41) rfl hS (by decide) rfl ?_
    refine g_iload_n (i := 3) rfl rfl ?_
    refine g_aload_n (i := 0) rfl rfl ?_
    refine g_getfield (v := .ref 40) rfl hS (by decide) rfl ?_
    refine g_iload_n (i := 2) rfl rfl ?_
    refine g_laload (n := 644) (f := ff) rfl h40 (i_in (by omega) (by omega)) ?_
    rw [i_nat el, hff]
    refine g_lastore (n := 7) (f := T) (h1 := h.set 41 (.inl (1, 7, .inr (.inl (vp_updL T 0 (fsS s.1 (s.1 * s.2.1) C)))))) rfl h41 (i_in (by rw [ez]; decide) (by rw [ez]; decide)) (by rw [i_nat ez]) ?_
    have FA0 := FC_out (q := 41) (x := (.inl (1, 7, .inr (.inl (vp_updL T 0 (fsS s.1 (s.1 * s.2.1) C)))))) F (by omega)
    have SA0 : (h.set 41 (.inl (1, 7, .inr (.inl (vp_updL T 0 (fsS s.1 (s.1 * s.2.1) C))))))[38]? = some (sO B S1 S2) := by rw [s_set_ne (by decide)]; exact hS
    have TA0 : (h.set 41 (.inl (1, 7, .inr (.inl (vp_updL T 0 (fsS s.1 (s.1 * s.2.1) C))))))[41]? = some (.inl (1, 7, .inr (.inl (vp_updL T 0 (fsS s.1 (s.1 * s.2.1) C))))) := s_set_eq h41
    refine g_aload_n (i := 0) rfl rfl ?_
    refine g_getfield (v := .ref 41) rfl SA0 (by decide) rfl ?_
    refine g_iconst (n := 1) rfl ?_
    refine g_iload_n (i := 3) rfl rfl ?_
    refine g_isub rfl ?_
    refine g_aload_n (i := 1) rfl rfl ?_
    refine g_getfield (v := .long (c.2.1 2)) rfl FA0.1 (by decide) rfl ?_
    refine g_aload_n (i := 0) rfl rfl ?_
    refine g_getfield (v := .ref 40) rfl SA0 (by decide) rfl ?_
    refine g_iload_n (i := 2) rfl rfl ?_
    refine g_laload (n := 644) (f := ff) rfl (by rw [s_set_ne (by decide)]; exact h40) (i_in (by omega) (by omega)) ?_
    rw [i_nat el, hff]
    refine g_ldc2_w (j := 18446744073709551615) rfl ?_
    refine g_lxor rfl ?_
    refine g_land rfl ?_
    rw [g2]
    show sGo none 97 _ 82 [some (.ref 38), some (.ref 5), some (.int (Int32.ofNat P.length)), some (.int (Int32.ofInt 0))] (.long (stO (fun _ => true) (s.1 * s.2.1) &&& ((fsS s.1 (s.1 * s.2.1) C) ^^^ Int64.ofNat 18446744073709551615)) :: .int (Int32.ofInt 1) :: .ref 41 :: []) _ _
    refine g_lastore (n := 7) (f := vp_updL T 0 (fsS s.1 (s.1 * s.2.1) C)) (h1 := h.set 41 (.inl (1, 7, .inr (.inl (setT T s.1 (s.1 * s.2.1) C 0))))) rfl TA0 (i_in (by rw [eo]; decide) (by rw [eo]; decide)) (by rw [i_nat eo, List.set_set]; rfl) ?_
    have FB0 := FC_out (q := 41) (x := (.inl (1, 7, .inr (.inl (setT T s.1 (s.1 * s.2.1) C 0))))) F (by omega)
    have SB0 : (h.set 41 (.inl (1, 7, .inr (.inl (setT T s.1 (s.1 * s.2.1) C 0)))))[38]? = some (sO B S1 S2) := by rw [s_set_ne (by decide)]; exact hS
    have TB0 : (h.set 41 (.inl (1, 7, .inr (.inl (setT T s.1 (s.1 * s.2.1) C 0)))))[41]? = some (.inl (1, 7, .inr (.inl (setT T s.1 (s.1 * s.2.1) C 0)))) := s_set_eq h41
    have PB0 := PT_two (T := T) (W := s.1) (n := (s.1 * s.2.1)) (C := C) (w := 0) hn.1 hT (by decide)
    refine g_aload_n (i := 0) rfl rfl ?_
    refine g_aload_n (i := 1) rfl rfl ?_
    refine g_aload_n (i := 0) rfl rfl ?_
    refine g_getfield (v := .ref 39) rfl SB0 (by decide) rfl ?_
    refine g_iload_n (i := 2) rfl rfl ?_
    refine g_iaload (n := 644) (f := fc) rfl (by rw [s_set_ne (by decide)]; exact h39) (i_in (by omega) (by omega)) ?_
    rw [i_nat el, hfc]
    refine g_iload_n (i := 3) rfl rfl ?_
    refine g_virt3 rfl (by decide) rfl SB0 rfl (Nat.le_of_ble_eq_true rfl) (s_try11 (d := d) (C := C) (C2 := 0) (t := t) (m := m) (by omega) FB0 g r sI SB0 TB0 PB0 ht b rfl rfl) (fun r0 h1 hq => ?_)
    obtain ⟨rfl, B1, hS1, b61, b1, E1⟩ := hq
    rw [vdA_PT n5 PB0] at b1
    have b1 : bsC B1 (trS m s C 0 (owT s.1 C 0) t) := b1
    have b61 : B1 6 = Int32.ofNat L.length := b61.trans b6
    have F1 : FC h1 5 c := FC_tr FB0 (fun q x h1 h2 hx => (E1.2 q (by omega)).trans hx)
    have c391 : h1[39]? = some (.inl (0, 644, .inl fc)) := (E1.2 39 (by decide)).trans (by rw [s_set_ne (by decide)]; exact h39)
    have c401 : h1[40]? = some (.inl (1, 644, .inr (.inl ff))) := (E1.2 40 (by decide)).trans (by rw [s_set_ne (by decide)]; exact h40)
    have c411 : h1[41]? = some (.inl (1, 7, .inr (.inl (setT T s.1 (s.1 * s.2.1) C 0)))) := (E1.2 41 (by decide)).trans TB0
    have hT1 := setT_0 (W := s.1) (n := (s.1 * s.2.1)) (C := C) (w := 0) hT (by decide)
    have E1 := tcE_38 (tcE_set (x := .inl (1, 7, .inr (.inl (setT T s.1 (s.1 * s.2.1) C 0)))) E (by decide)) E1
    have ht1 : ((trS m s C 0 (owT s.1 C 0) t)).2 ≤ 1000 := trS_le ht
    have hc1 : cdI (trS m s C 0 (owT s.1 C 0) t) := cdI_tr hc (by omega)
    refine g_iinc (i := 3) (L1 := [some (.ref 38), some (.ref 5), some (.int (Int32.ofNat P.length)), some (.int ((Int32.ofInt 0) + Int32.ofInt 1))]) rfl rfl rfl ?_
    refine g_goto 43 rfl rfl ?_
    show sGo none 97 _ 43 [some (.ref 38), some (.ref 5), some (.int (Int32.ofNat P.length)), some (.int (Int32.ofInt 1))] [] _ _
    refine g_iload_n (i := 3) rfl rfl ?_
    refine g_iconst (n := 2) rfl ?_
    refine g_icmp_ge 101 rfl rfl (fun hc => absurd hc (by decide)) (fun _ => ?_)
    refine g_aload_n (i := 0) rfl rfl ?_
    refine g_getfield (v := .ref 41) rfl hS1 (by decide) rfl ?_
    refine g_iload_n (i := 3) rfl rfl ?_
    refine g_aload_n (i := 0) rfl rfl ?_
    refine g_getfield (v := .ref 40) rfl hS1 (by decide) rfl ?_
    refine g_iload_n (i := 2) rfl rfl ?_
    refine g_laload (n := 644) (f := ff) rfl c401 (i_in (by omega) (by omega)) ?_
    rw [i_nat el, hff]
    refine g_lastore (n := 7) (f := (setT T s.1 (s.1 * s.2.1) C 0)) (h1 := h1.set 41 (.inl (1, 7, .inr (.inl (vp_updL (setT T s.1 (s.1 * s.2.1) C 0) 1 (fsS s.1 (s.1 * s.2.1) C)))))) rfl c411 (i_in (by rw [eo]; decide) (by rw [eo]; decide)) (by rw [i_nat eo]) ?_
    have FA1 := FC_out (q := 41) (x := (.inl (1, 7, .inr (.inl (vp_updL (setT T s.1 (s.1 * s.2.1) C 0) 1 (fsS s.1 (s.1 * s.2.1) C)))))) F1 (by omega)
    have SA1 : (h1.set 41 (.inl (1, 7, .inr (.inl (vp_updL (setT T s.1 (s.1 * s.2.1) C 0) 1 (fsS s.1 (s.1 * s.2.1) C))))))[38]? = some (sO B1 S1 S2) := by rw [s_set_ne (by decide)]; exact hS1
    have TA1 : (h1.set 41 (.inl (1, 7, .inr (.inl (vp_updL (setT T s.1 (s.1 * s.2.1) C 0) 1 (fsS s.1 (s.1 * s.2.1) C))))))[41]? = some (.inl (1, 7, .inr (.inl (vp_updL (setT T s.1 (s.1 * s.2.1) C 0) 1 (fsS s.1 (s.1 * s.2.1) C))))) := s_set_eq c411
    refine g_aload_n (i := 0) rfl rfl ?_
    refine g_getfield (v := .ref 41) rfl SA1 (by decide) rfl ?_
    refine g_iconst (n := 1) rfl ?_
    refine g_iload_n (i := 3) rfl rfl ?_
    refine g_isub rfl ?_
    refine g_aload_n (i := 1) rfl rfl ?_
    refine g_getfield (v := .long (c.2.1 2)) rfl FA1.1 (by decide) rfl ?_
    refine g_aload_n (i := 0) rfl rfl ?_
    refine g_getfield (v := .ref 40) rfl SA1 (by decide) rfl ?_
    refine g_iload_n (i := 2) rfl rfl ?_
    refine g_laload (n := 644) (f := ff) rfl (by rw [s_set_ne (by decide)]; exact c401) (i_in (by omega) (by omega)) ?_
    rw [i_nat el, hff]
    refine g_ldc2_w (j := 18446744073709551615) rfl ?_
    refine g_lxor rfl ?_
    refine g_land rfl ?_
    rw [g2]
    show sGo none 97 _ 82 [some (.ref 38), some (.ref 5), some (.int (Int32.ofNat P.length)), some (.int (Int32.ofInt 1))] (.long (stO (fun _ => true) (s.1 * s.2.1) &&& ((fsS s.1 (s.1 * s.2.1) C) ^^^ Int64.ofNat 18446744073709551615)) :: .int (Int32.ofInt 0) :: .ref 41 :: []) _ _
    refine g_lastore (n := 7) (f := vp_updL (setT T s.1 (s.1 * s.2.1) C 0) 1 (fsS s.1 (s.1 * s.2.1) C)) (h1 := h1.set 41 (.inl (1, 7, .inr (.inl (setT (setT T s.1 (s.1 * s.2.1) C 0) s.1 (s.1 * s.2.1) C 1))))) rfl TA1 (i_in (by rw [ez]; decide) (by rw [ez]; decide)) (by rw [i_nat ez, List.set_set]; rfl) ?_
    have FB1 := FC_out (q := 41) (x := (.inl (1, 7, .inr (.inl (setT (setT T s.1 (s.1 * s.2.1) C 0) s.1 (s.1 * s.2.1) C 1))))) F1 (by omega)
    have SB1 : (h1.set 41 (.inl (1, 7, .inr (.inl (setT (setT T s.1 (s.1 * s.2.1) C 0) s.1 (s.1 * s.2.1) C 1)))))[38]? = some (sO B1 S1 S2) := by rw [s_set_ne (by decide)]; exact hS1
    have TB1 : (h1.set 41 (.inl (1, 7, .inr (.inl (setT (setT T s.1 (s.1 * s.2.1) C 0) s.1 (s.1 * s.2.1) C 1)))))[41]? = some (.inl (1, 7, .inr (.inl (setT (setT T s.1 (s.1 * s.2.1) C 0) s.1 (s.1 * s.2.1) C 1)))) := s_set_eq c411
    have PB1 := PT_two (T := (setT T s.1 (s.1 * s.2.1) C 0)) (W := s.1) (n := (s.1 * s.2.1)) (C := C) (w := 1) hn.1 hT1 (by decide)
    refine g_aload_n (i := 0) rfl rfl ?_
    refine g_aload_n (i := 1) rfl rfl ?_
    refine g_aload_n (i := 0) rfl rfl ?_
    refine g_getfield (v := .ref 39) rfl SB1 (by decide) rfl ?_
    refine g_iload_n (i := 2) rfl rfl ?_
    refine g_iaload (n := 644) (f := fc) rfl (by rw [s_set_ne (by decide)]; exact c391) (i_in (by omega) (by omega)) ?_
    rw [i_nat el, hfc]
    refine g_iload_n (i := 3) rfl rfl ?_
    refine g_virt3 rfl (by decide) rfl SB1 rfl (Nat.le_of_ble_eq_true rfl) (s_try11 (d := d) (C := C) (C2 := 1) (t := (trS m s C 0 (owT s.1 C 0) t)) (m := m) (by omega) FB1 g r sI SB1 TB1 PB1 ht1 b1 rfl rfl) (fun r1 h2 hq => ?_)
    obtain ⟨rfl, B2, hS2, b62, b2, E2⟩ := hq
    rw [vdA_PT n5 PB1] at b2
    have b2 : bsC B2 (trS m s C 1 (owT s.1 C 1) (trS m s C 0 (owT s.1 C 0) t)) := b2
    have b62 : B2 6 = Int32.ofNat L.length := b62.trans b61
    have F2 : FC h2 5 c := FC_tr FB1 (fun q x h1 h2 hx => (E2.2 q (by omega)).trans hx)
    have c392 : h2[39]? = some (.inl (0, 644, .inl fc)) := (E2.2 39 (by decide)).trans (by rw [s_set_ne (by decide)]; exact c391)
    have c402 : h2[40]? = some (.inl (1, 644, .inr (.inl ff))) := (E2.2 40 (by decide)).trans (by rw [s_set_ne (by decide)]; exact c401)
    have c412 : h2[41]? = some (.inl (1, 7, .inr (.inl (setT (setT T s.1 (s.1 * s.2.1) C 0) s.1 (s.1 * s.2.1) C 1)))) := (E2.2 41 (by decide)).trans TB1
    have hT2 := setT_0 (W := s.1) (n := (s.1 * s.2.1)) (C := C) (w := 1) hT1 (by decide)
    have E2 := tcE_38 (tcE_set (x := .inl (1, 7, .inr (.inl (setT (setT T s.1 (s.1 * s.2.1) C 0) s.1 (s.1 * s.2.1) C 1)))) E1 (by decide)) E2
    have ht2 : ((trS m s C 1 (owT s.1 C 1) (trS m s C 0 (owT s.1 C 0) t))).2 ≤ 1000 := trS_le ht1
    have hc2 : cdI (trS m s C 1 (owT s.1 C 1) (trS m s C 0 (owT s.1 C 0) t)) := cdI_tr hc1 (by omega)
    refine g_iinc (i := 3) (L1 := [some (.ref 38), some (.ref 5), some (.int (Int32.ofNat P.length)), some (.int ((Int32.ofInt 1) + Int32.ofInt 1))]) rfl rfl rfl ?_
    refine g_goto 43 rfl rfl ?_
    show sGo none 97 _ 43 [some (.ref 38), some (.ref 5), some (.int (Int32.ofNat P.length)), some (.int (Int32.ofInt 2))] [] _ _
    refine g_iload_n (i := 3) rfl rfl ?_
    refine g_iconst (n := 2) rfl ?_
    refine g_icmp_ge 101 rfl rfl (fun _ => ?_) (fun hc => absurd hc (by exact fun z => z (by decide)))
    refine g_iinc (i := 2) (L1 := [some (.ref 38), some (.ref 5), some (.int ((Int32.ofNat P.length) + Int32.ofInt 1)), some (.int (Int32.ofInt 2))]) rfl rfl rfl ?_
    rw [ofN_add (by omega)]
    refine g_goto 33 rfl rfl ?_
    have key := ih (P ++ [C]) _ B2 _ h2 (some (.int (Int32.ofInt 2))) hL2 hc2 F2 hS2 b62 b2 ht2 c392 c402 c412 hT2 E2
    rw [hP1] at key
    exact key
theorem s_find2 {d : Nat} {h : sHp} {c : CF} {m : MF} {s : Sg} {B : Nat → Int32} {S1 S2 : Int64} {fc : Nat → Int32} {ff T : Nat → Int64} (hd : 9 ≤ d) (F : FC h 5 c) (g : gdF c s.1 s.2.1) (r : RB c m) (sI : sgI c s) (h2 : s.2.2 = 2) (hS : h[38]? = some (sO B S1 S2)) (h39 : h[39]? = some (.inl (0, 644, .inl fc))) (h40 : h[40]? = some (.inl (1, 644, .inr (.inl ff)))) (h41 : h[41]? = some (.inl (1, 7, .inr (.inl T)))) : sDo d 97 [.ref 38, .ref 5] h (fun rv h' => (rv = some (.int 1) ∧ (twL m s (lsT s.1 s.2.1 true false) (none, 1000)).1 ≠ none ∨ rv = some (.int 0) ∧ (twL m s (lsT s.1 s.2.1 true false) (none, 1000)).1 = none) ∧ tcE h h' ∧ ∃ B', h'[38]? = some (sO B' S1 S2) ∧ bsC B' (twL m s (lsT s.1 s.2.1 true false) (none, 1000))) := by
  have w8 := g.2.2.2.1
  have h8 := g.2.2.2.2.2.1
  have e11 : c.1 11 = Int32.ofInt 2 := by rw [sI.2.2.1, h2]; rfl
  refine sDo_of1 (nL := 4) (L := [some (.ref 38), some (.ref 5), none, none]) (by omega) rfl rfl ?_
  refine g_aload_n (i := 0) rfl rfl ?_
  refine g_sipush (n := 1000) rfl ?_
  refine g_virt1 rfl (by decide) rfl hS rfl (Nat.le_of_ble_eq_true rfl) (s_forget (d := d - 1) (x := (Int16.ofInt 1000).toInt32) (by omega) hS) (fun r h1 hq => ?_)
  obtain ⟨rfl, rfl⟩ := hq
  have hA : (h.set 38 (sO (upd (upd (upd B 0 (Int32.ofInt (-1))) 4 (Int32.ofInt 0)) 5 (Int16.ofInt 1000).toInt32) S1 S2))[38]? = some (sO (upd (upd (upd B 0 (Int32.ofInt (-1))) 4 (Int32.ofInt 0)) 5 (Int16.ofInt 1000).toInt32) S1 S2) := s_set_eq hS
  have FA := FC_out (q := 38) (x := sO (upd (upd (upd B 0 (Int32.ofInt (-1))) 4 (Int32.ofInt 0)) 5 (Int16.ofInt 1000).toInt32) S1 S2) F (by omega)
  refine g_aload_n (i := 1) rfl rfl ?_
  refine g_getfield (v := .int (c.1 11)) rfl FA.1 (by decide) rfl ?_
  refine g_iconst (n := 2) rfl ?_
  refine g_icmp_eq 17 rfl rfl (fun _ => ?_) (fun hc => absurd hc (by exact fun z => z e11))
  refine g_aload_n (i := 0) rfl rfl ?_
  refine g_aload_n (i := 1) rfl rfl ?_
  refine g_iconst (n := 1) rfl ?_
  refine g_iconst (n := 0) rfl ?_
  have hls := s_listCuts (d := d - 1) (x2 := Int32.ofInt 1) (x3 := Int32.ofInt 0) (fc := fc) (ff := ff) true false (by omega) FA g hA (by rw [s_set_ne (by decide)]; exact h39) (by rw [s_set_ne (by decide)]; exact h40) (by decide) (by decide)
  refine g_virt3 rfl (by decide) rfl hA rfl (Nat.le_of_ble_eq_true rfl) hls (fun r h2 hq => ?_)
  obtain ⟨rfl, ⟨B2, fc2, ff2, hS2, bb, b6, g39, g40, p1, p2⟩, E2⟩ := hq
  have F2 := FC_tr FA (fun q x h1 h2 hx => (E2.2 q (by omega)).trans hx)
  have g41 : h2[41]? = some (.inl (1, 7, .inr (.inl T))) := (E2.2 41 (by decide)).trans (by rw [s_set_ne (by decide)]; exact h41)
  have bc : bsC B2 (none, 1000) := ⟨(bb 0 (by decide)).trans ((u_ne (by decide)).trans ((u_ne (by decide)).trans u_at)), (bb 5 (by decide)).trans u_at⟩
  have E3 := tcE_sc (tcE_set (x := sO (upd (upd (upd B 0 (Int32.ofInt (-1))) 4 (Int32.ofInt 0)) 5 (Int16.ofInt 1000).toInt32) S1 S2) (tcE_rfl (h := h)) (by decide)) E2
  refine g_aload_n (i := 0) rfl rfl ?_
  refine g_getfield (v := .ref 41) rfl hS2 (by decide) rfl ?_
  refine g_static1 (Qc := fun r h' => r = none ∧ h' = h2.set 41 (.inl (1, 7, .inr (.inl (zrF T 7))))) rfl (by decide) rfl (Nat.le_of_ble_eq_true rfl) (by rw [show d - 1 = (d - 2) + 1 by omega]; exact s_empty (d := d - 2) g41 (by decide)) (fun r h3 hq => ?_)
  obtain ⟨rfl, rfl⟩ := hq
  have F3 := FC_out (q := 41) (x := .inl (1, 7, .inr (.inl (zrF T 7)))) F2 (by omega)
  have hS3 : (h2.set 41 (.inl (1, 7, .inr (.inl (zrF T 7)))))[38]? = some (sO B2 S1 S2) := by rw [s_set_ne (by decide)]; exact hS2
  refine g_iconst (n := 0) rfl ?_
  refine g_istore_n (i := 2) (L1 := [some (.ref 38), some (.ref 5), some (.int (Int32.ofInt 0)), none]) rfl (Nat.le_of_ble_eq_true rfl) rfl ?_
  exact s_two11_go (d := d - 1) (by omega) g r sI (ls_k2 w8 h8) (ls_len w8 h8) p1 p2 (lsT s.1 s.2.1 true false) [] (none, 1000) B2 _ _ _ rfl (fun _ _ z => by cases z) F3 hS3 b6 bc (by decide) (by rw [s_set_ne (by decide)]; exact g39) (by rw [s_set_ne (by decide)]; exact g40) (s_set_eq g41) (fun k _ k7 => if_pos k7) (tcE_set E3 (by decide))
end
section
/-! ===== the best cut into two, the reference ===== -/
def mo (m : MF) (J ow : Nat → Int32) : MF := (J, m.2.1, ow, m.2.2.2)
def rX (hb h : sHp) (J ow : Nat → Int32) : Prop := h[60]? = some (mO J) ∧ h[63]? = some (.inl (0, 64, .inl ow)) ∧ h.length = hb.length ∧ ∀ q, q ≠ 60 → q ≠ 63 → h[q]? = hb[q]?
theorem rX_MC {hb h : sHp} {J ow : Nat → Int32} {m : MF} (x : rX hb h J ow) (M : MC hb m) : MC h (mo m J ow) := ⟨x.1, (x.2.2.2 62 (by decide) (by decide)).trans M.2.1, x.2.1, (x.2.2.2 64 (by decide) (by decide)).trans M.2.2.2.1, (x.2.2.2 65 (by decide) (by decide)).trans M.2.2.2.2.1, (x.2.2.2 66 (by decide) (by decide)).trans M.2.2.2.2.2⟩
theorem rX_ow {hb h : sHp} {J ow ow' : Nat → Int32} (x : rX hb h J ow) : rX hb (h.set 63 (.inl (0, 64, .inl ow'))) J ow' := ⟨by rw [s_set_ne (by decide)]; exact x.1, s_set_eq x.2.1, by rw [List.length_set]; exact x.2.2.1, fun q h1 h2 => by rw [s_set_ne (Ne.symm h2)]; exact x.2.2.2 q h1 h2⟩
theorem rX_60 {hb h h' : sHp} {J J' ow : Nat → Int32} (x : rX hb h J ow) (e : e60 h h') (hr : h'[60]? = some (mO J')) : rX hb h' J' ow := ⟨hr, (e.2 63 (by decide)).trans x.2.1, e.1.trans x.2.2.1, fun q h1 h2 => (e.2 q h1).trans (x.2.2.2 q h1 h2)⟩
def jE (J J' : Nat → Int32) : Prop := ∀ j, j ≠ 28 → j ≠ 32 → j ≠ 33 → j ≠ 34 → J' j = J j
theorem jE_rfl {J : Nat → Int32} : jE J J := fun _ _ _ _ _ => rfl
theorem jE_tr {a b c : Nat → Int32} (x : jE a b) (y : jE b c) : jE a c := fun j h1 h2 h3 h4 => (y j h1 h2 h3 h4).trans (x j h1 h2 h3 h4)
theorem RB_mo {c : CF} {m : MF} {J ow : Nat → Int32} (r : RB c m) (hj : ∀ j, j < 7 → J j = m.1 j) : RB c (mo m J ow) := RB_J7 (m := (m.1, m.2.1, ow, m.2.2.2)) (RB_no c m c.2.2.2.2.2.2 ow r) hj
theorem ssN_ow {m : MF} {ow : Nat → Int32} : ∀ k, ssN ((m.1, m.2.1, ow, m.2.2.2) : MF) k = ssN m k := by
  intro k
  induction k with
  | zero => rfl
  | succ k ih => exact congrArg (fun z => z + shN m k) ih
theorem fltP_ow {m : MF} {s : Sg} {S : Nat → Int64} {ow : Nat → Int32} : fltP ((m.1, m.2.1, ow, m.2.2.2) : MF) s S = fltP m s S := by
  refine funext fun f => funext fun i => ?_
  have k5 : F5 ((m.1, m.2.1, ow, m.2.2.2) : MF) (s.1 * s.2.1) s.2.2 i (S i) = F5 m (s.1 * s.2.1) s.2.2 i (S i) := by
    unfold F5
    rw [ssN_ow]
    rfl
  unfold fltP
  split
  · rfl
  · rfl
  · rfl
  · exact k5
theorem vdA_ow {m : MF} {s : Sg} {S : Nat → Int64} {ow : Nat → Int32} : vdA ((m.1, m.2.1, ow, m.2.2.2) : MF) s S = vdA m s S := by
  unfold vdA
  rw [fltP_ow]
theorem s_tryM {d : Nat} {h : sHp} {c : CF} {m : MF} {s : Sg} {x y : Int32} {C C2 : Nat} {t : T3} {J ow owc : Nat → Int32} (hd : 6 ≤ d) (M : MC h (mo m J ow)) (hj : ∀ j, j < 7 → J j = m.1 j) (gM : gdM m.1 s.1 s.2.1) (g : gdF c s.1 s.2.1) (r : RB c m) (sI : sgI c s) (sJ : sgJ m.1 s) (ho : ∀ q, q < s.1 * s.2.1 → ow q = owc q) (hin : ∀ q, q < s.1 * s.2.1 → ∃ k, k < 7 ∧ owc q = cdS k) (ht : t.2 ≤ 1000) (b : bsJ J t) (hx : x = Int32.ofNat C) (hy : y = Int32.ofNat C2) : sDo d 234 [.ref 60, .int x, .int y] h (fun rv h' => rv = none ∧ ∃ J', h'[60]? = some (mO J') ∧ jE J J' ∧ bsJ J' (trS m s C C2 owc t) ∧ e60 h h') := by
  have hn := gdF_n g
  have gd := gM
  obtain ⟨-, -, w2, w8, -, h8⟩ := gd
  have P : PT (ST owc (s.1 * s.2.1)) (mo m J ow).2.2.1 (s.1 * s.2.1) := PT_ext hn.1 (fun _ _ => rfl) ho (PT_ST hin)
  have key := s_try12 (x := x) (y := y) (C := C) (C2 := C2) hd M ⟨(hj 0 (by decide)).trans gM.1, (hj 1 (by decide)).trans gM.2.1, gM.2.2⟩ g (RB_mo r hj) sI ⟨(hj 0 (by decide)).trans sJ.1, (hj 1 (by decide)).trans sJ.2.1, (hj 6 (by decide)).trans sJ.2.2.1, sJ.2.2.2⟩ P ht b hx hy
  have e1 : hdN s.1 (s.1 * s.2.1) (mo m J ow).2.2.1 (s.1 * s.2.1) = hdN s.1 (s.1 * s.2.1) owc (s.1 * s.2.1) := hdN_ext w2 w8 h8 ho _ (Nat.le_refl _)
  have e2 : vdA (mo m J ow) s (ST owc (s.1 * s.2.1)) = vdA m s (ST owc (s.1 * s.2.1)) := (vdA_J (m := (m.1, m.2.1, ow, m.2.2.2)) hj).trans vdA_ow
  rw [e1, e2] at key
  exact key
theorem trS_J {m : MF} {s : Sg} {J2 ow : Nat → Int32} {C C2 : Nat} {t : T3} (hj : ∀ j, j < 7 → J2 j = m.1 j) : trS ((J2, m.2) : MF) s C C2 ow t = trS m s C C2 ow t := by
  unfold trS
  rw [vdA_J hj]
theorem twL_J {m : MF} {s : Sg} {J2 : Nat → Int32} (hj : ∀ j, j < 7 → J2 j = m.1 j) : ∀ (L : List Nat) (t : T3), twL ((J2, m.2) : MF) s L t = twL m s L t := by
  intro L
  induction L with
  | nil => intro t; rfl
  | cons C L ih =>
    intro t
    show twL ((J2, m.2) : MF) s L (trS ((J2, m.2) : MF) s C 1 (owT s.1 C 1) (trS ((J2, m.2) : MF) s C 0 (owT s.1 C 0) t)) = twL m s L (trS m s C 1 (owT s.1 C 1) (trS m s C 0 (owT s.1 C 0) t))
    rw [trS_J hj, trS_J hj, ih]
def twA (t : T3) (k : Int) : Int32 := match t.1 with
  | none => -5
  | some (a, b) => if k = 0 then Int32.ofNat a else if k = 1 then Int32.ofNat b else Int32.ofNat t.2
def qB (m : MF) (v : Int32) (rv : Option Value) (h' : sHp) : Prop := rv = some (.int v) ∧ ∃ ow', h'[63]? = some (.inl (0, 64, .inl ow')) ∧ ∀ q, q < 64 → ow' q = m.2.2.1 q
theorem s_two12_q0 {d : Nat} {hb h : sHp} {m : MF} {s : Sg} {J ow fc : Nat → Int32} {x : Int32} {i C : Nat} {Q : Option Value → sHp → Prop} (hd : 1 ≤ d) (X : rX hb h J ow) (g : gdM J s.1 s.2.1) (h76 : hb[76]? = some (.inl (0, 1000, .inl fc))) (hi : i < 1000) (hfc : fc i = Int32.ofNat C) (hC : C < 7000) (hQ : sGo none 235 d 109 [some (.ref 60), some (.int x), some (.int (Int32.ofNat i)), some (.int (Int32.ofInt 0)), some (.int (Int32.ofNat (s.1 * s.2.1)))] [] (h.set 63 (.inl (0, 64, .inl (fun q => if q < (s.1 * s.2.1) then owT s.1 C 0 q else ow q)))) Q) : ∀ (f k : Nat), k + f = (s.1 * s.2.1) → sGo none 235 d 60 [some (.ref 60), some (.int x), some (.int (Int32.ofNat i)), some (.int (Int32.ofInt 0)), some (.int (Int32.ofNat k))] [] (h.set 63 (.inl (0, 64, .inl (fun q => if q < k then owT s.1 C 0 q else ow q)))) Q := by
  have gd := g
  obtain ⟨gw, gh, w2, w8, h2, h8⟩ := gd
  have hn := gdM_n g
  have hw0 : (J 0).toInt = ((s.1 : Nat) : Int) := by rw [gw]; exact ofN_toInt (by omega)
  have hw1 : (J 1).toInt = ((s.2.1 : Nat) : Int) := by rw [gh]; exact ofN_toInt (by omega)
  have hwn : (J 0 * J 1).toInt = ((s.1 * s.2.1 : Nat) : Int) := n_mul hw0 hw1 (by omega)
  have hcx : (Int32.ofNat C).toInt = ((C : Nat) : Int) := ofC_toInt (by omega)
  have ei : (Int32.ofNat i).toInt = ((i : Nat) : Int) := ofC_toInt (by omega)
  intro f
  induction f with
  | zero =>
    intro k hk
    have eW : (s.1 * s.2.1) = k := by omega
    have ek := ofN_toInt (n := k) (by omega)
    have hr : (h.set 63 (.inl (0, 64, .inl (fun q => if q < k then owT s.1 C 0 q else ow q))))[60]? = some (mO J) := by rw [s_set_ne (by decide)]; exact X.1
    rw [eW] at hQ
    refine g_iload (i := 4) rfl rfl ?_
    refine g_aload_n (i := 0) rfl rfl ?_
    refine g_getfield (v := .int (J 0)) rfl hr (by decide) rfl ?_
    refine g_aload_n (i := 0) rfl rfl ?_
    refine g_getfield (v := .int (J 1)) rfl hr (by decide) rfl ?_
    refine g_imul rfl ?_
    refine g_icmp_ge 109 rfl rfl (fun _ => ?_) (fun hc => absurd hc (by rw [i_le, hwn, ek]; omega))
    exact hQ
  | succ f ih =>
    intro k hk
    have ek := ofN_toInt (n := k) (by omega)
    have hr : (h.set 63 (.inl (0, 64, .inl (fun q => if q < k then owT s.1 C 0 q else ow q))))[60]? = some (mO J) := by rw [s_set_ne (by decide)]; exact X.1
    have h63 : (h.set 63 (.inl (0, 64, .inl (fun q => if q < k then owT s.1 C 0 q else ow q))))[63]? = some (.inl (0, 64, .inl (fun q => if q < k then owT s.1 C 0 q else ow q))) := s_set_eq X.2.1
    have c76 : (h.set 63 (.inl (0, 64, .inl (fun q => if q < k then owT s.1 C 0 q else ow q))))[76]? = some (.inl (0, 1000, .inl fc)) := by rw [s_set_ne (by decide)]; exact (X.2.2.2 76 (by decide) (by decide)).trans h76
    have ef : ∀ v : Int32, v = owT s.1 C 0 k → upd (fun q => if q < k then owT s.1 C 0 q else ow q) k v = (fun q => if q < (k + 1) then owT s.1 C 0 q else ow q) := fun v hv => funext fun q => by
      by_cases e : q = k
      · rw [e, u_at, hv]; exact (if_pos (by omega)).symm
      · rw [u_ne e]
        by_cases l : q < k
        · exact (if_pos l).trans (if_pos (by omega)).symm
        · exact (if_neg l).trans (if_neg (by omega)).symm
    obtain ⟨hz, ehz⟩ : ∃ z, z = (h.set 63 (.inl (0, 64, .inl (fun q => if q < k then owT s.1 C 0 q else ow q)))) := ⟨_, rfl⟩
    rw [← ehz] at hr h63 c76 ⊢
    refine g_iload (i := 4) rfl rfl ?_
    refine g_aload_n (i := 0) rfl rfl ?_
    refine g_getfield (v := .int (J 0)) rfl hr (by decide) rfl ?_
    refine g_aload_n (i := 0) rfl rfl ?_
    refine g_getfield (v := .int (J 1)) rfl hr (by decide) rfl ?_
    refine g_imul rfl ?_
    refine g_icmp_ge 109 rfl rfl (fun hc => absurd hc (by rw [i_le, hwn, ek]; omega)) (fun _ => ?_)
    refine g_aload_n (i := 0) rfl rfl ?_
    refine g_getfield (v := .ref 63) rfl hr (by decide) rfl ?_
    refine g_iload (i := 4) rfl rfl ?_
    refine g_aload_n (i := 0) rfl rfl ?_
    refine g_aload_n (i := 0) rfl rfl ?_
    refine g_getfield (v := .ref 76) rfl hr (by decide) rfl ?_
    refine g_iload_n (i := 2) rfl rfl ?_
    refine g_iaload (n := 1000) (f := fc) rfl c76 (i_in (by omega) (by omega)) ?_
    rw [i_nat ei, hfc]
    refine g_iload (i := 4) rfl rfl ?_
    refine g_virt2 (Qc := fun r h' => h' = hz ∧ (((isF s.1 C k = true) ∧ r = some (.int 1)) ∨ (¬ (isF s.1 C k = true) ∧ r = some (.int 0)))) rfl (by decide) rfl hr rfl (Nat.le_of_ble_eq_true rfl) (s_isFirst2 (W := s.1) (H := s.2.1) (q := k) (by omega) hr g hcx hC (by omega)) (fun r hz hq9 => ?_)
    obtain ⟨rfl, ⟨c_1, rfl⟩ | ⟨c_1, rfl⟩⟩ := hq9
    · skip
      refine g_if_eq 99 rfl rfl (fun hc => absurd hc (by decide)) (fun _ => ?_)
      refine g_iload_n (i := 3) rfl rfl ?_
      refine g_goto 102 rfl rfl ?_
      refine g_iastore (n := 64) (f := (fun q => if q < k then owT s.1 C 0 q else ow q)) (h1 := (h.set 63 (.inl (0, 64, .inl (fun q => if q < (k + 1) then owT s.1 C 0 q else ow q))))) rfl h63 (i_in (by omega) (by omega)) (by rw [i_nat ek, ehz, List.set_set, ef ((Int32.ofInt 0)) ((show (Int32.ofInt 0) = Int32.ofNat 0 by decide).trans (if_pos c_1).symm)]) ?_
      refine g_iinc (i := 4) (L1 := [some (.ref 60), some (.int x), some (.int (Int32.ofNat i)), some (.int (Int32.ofInt 0)), some (.int ((Int32.ofNat k) + Int32.ofInt 1))]) rfl rfl rfl ?_
      rw [ofN_add (by omega)]
      refine g_goto 60 rfl rfl ?_
      exact ih (k + 1) (by omega)
    · skip
      refine g_if_eq 99 rfl rfl (fun _ => ?_) (fun hc => absurd hc (by decide))
      refine g_iconst (n := 1) rfl ?_
      refine g_iload_n (i := 3) rfl rfl ?_
      refine g_isub rfl ?_
      refine g_iastore (n := 64) (f := (fun q => if q < k then owT s.1 C 0 q else ow q)) (h1 := (h.set 63 (.inl (0, 64, .inl (fun q => if q < (k + 1) then owT s.1 C 0 q else ow q))))) rfl h63 (i_in (by omega) (by omega)) (by rw [i_nat ek, ehz, List.set_set, ef (((Int32.ofInt 1) - (Int32.ofInt 0))) ((show ((Int32.ofInt 1) - (Int32.ofInt 0)) = Int32.ofNat (1 - 0) by decide).trans (if_neg c_1).symm)]) ?_
      refine g_iinc (i := 4) (L1 := [some (.ref 60), some (.int x), some (.int (Int32.ofNat i)), some (.int (Int32.ofInt 0)), some (.int ((Int32.ofNat k) + Int32.ofInt 1))]) rfl rfl rfl ?_
      rw [ofN_add (by omega)]
      refine g_goto 60 rfl rfl ?_
      exact ih (k + 1) (by omega)
theorem s_two12_q1 {d : Nat} {hb h : sHp} {m : MF} {s : Sg} {J ow fc : Nat → Int32} {x : Int32} {i C : Nat} {Q : Option Value → sHp → Prop} (hd : 1 ≤ d) (X : rX hb h J ow) (g : gdM J s.1 s.2.1) (h76 : hb[76]? = some (.inl (0, 1000, .inl fc))) (hi : i < 1000) (hfc : fc i = Int32.ofNat C) (hC : C < 7000) (hQ : sGo none 235 d 109 [some (.ref 60), some (.int x), some (.int (Int32.ofNat i)), some (.int (Int32.ofInt 1)), some (.int (Int32.ofNat (s.1 * s.2.1)))] [] (h.set 63 (.inl (0, 64, .inl (fun q => if q < (s.1 * s.2.1) then owT s.1 C 1 q else ow q)))) Q) : ∀ (f k : Nat), k + f = (s.1 * s.2.1) → sGo none 235 d 60 [some (.ref 60), some (.int x), some (.int (Int32.ofNat i)), some (.int (Int32.ofInt 1)), some (.int (Int32.ofNat k))] [] (h.set 63 (.inl (0, 64, .inl (fun q => if q < k then owT s.1 C 1 q else ow q)))) Q := by
  have gd := g
  obtain ⟨gw, gh, w2, w8, h2, h8⟩ := gd
  have hn := gdM_n g
  have hw0 : (J 0).toInt = ((s.1 : Nat) : Int) := by rw [gw]; exact ofN_toInt (by omega)
  have hw1 : (J 1).toInt = ((s.2.1 : Nat) : Int) := by rw [gh]; exact ofN_toInt (by omega)
  have hwn : (J 0 * J 1).toInt = ((s.1 * s.2.1 : Nat) : Int) := n_mul hw0 hw1 (by omega)
  have hcx : (Int32.ofNat C).toInt = ((C : Nat) : Int) := ofC_toInt (by omega)
  have ei : (Int32.ofNat i).toInt = ((i : Nat) : Int) := ofC_toInt (by omega)
  intro f
  induction f with
  | zero =>
    intro k hk
    have eW : (s.1 * s.2.1) = k := by omega
    have ek := ofN_toInt (n := k) (by omega)
    have hr : (h.set 63 (.inl (0, 64, .inl (fun q => if q < k then owT s.1 C 1 q else ow q))))[60]? = some (mO J) := by rw [s_set_ne (by decide)]; exact X.1
    rw [eW] at hQ
    refine g_iload (i := 4) rfl rfl ?_
    refine g_aload_n (i := 0) rfl rfl ?_
    refine g_getfield (v := .int (J 0)) rfl hr (by decide) rfl ?_
    refine g_aload_n (i := 0) rfl rfl ?_
    refine g_getfield (v := .int (J 1)) rfl hr (by decide) rfl ?_
    refine g_imul rfl ?_
    refine g_icmp_ge 109 rfl rfl (fun _ => ?_) (fun hc => absurd hc (by rw [i_le, hwn, ek]; omega))
    exact hQ
  | succ f ih =>
    intro k hk
    have ek := ofN_toInt (n := k) (by omega)
    have hr : (h.set 63 (.inl (0, 64, .inl (fun q => if q < k then owT s.1 C 1 q else ow q))))[60]? = some (mO J) := by rw [s_set_ne (by decide)]; exact X.1
    have h63 : (h.set 63 (.inl (0, 64, .inl (fun q => if q < k then owT s.1 C 1 q else ow q))))[63]? = some (.inl (0, 64, .inl (fun q => if q < k then owT s.1 C 1 q else ow q))) := s_set_eq X.2.1
    have c76 : (h.set 63 (.inl (0, 64, .inl (fun q => if q < k then owT s.1 C 1 q else ow q))))[76]? = some (.inl (0, 1000, .inl fc)) := by rw [s_set_ne (by decide)]; exact (X.2.2.2 76 (by decide) (by decide)).trans h76
    have ef : ∀ v : Int32, v = owT s.1 C 1 k → upd (fun q => if q < k then owT s.1 C 1 q else ow q) k v = (fun q => if q < (k + 1) then owT s.1 C 1 q else ow q) := fun v hv => funext fun q => by
      by_cases e : q = k
      · rw [e, u_at, hv]; exact (if_pos (by omega)).symm
      · rw [u_ne e]
        by_cases l : q < k
        · exact (if_pos l).trans (if_pos (by omega)).symm
        · exact (if_neg l).trans (if_neg (by omega)).symm
    obtain ⟨hz, ehz⟩ : ∃ z, z = (h.set 63 (.inl (0, 64, .inl (fun q => if q < k then owT s.1 C 1 q else ow q)))) := ⟨_, rfl⟩
    rw [← ehz] at hr h63 c76 ⊢
    refine g_iload (i := 4) rfl rfl ?_
    refine g_aload_n (i := 0) rfl rfl ?_
    refine g_getfield (v := .int (J 0)) rfl hr (by decide) rfl ?_
    refine g_aload_n (i := 0) rfl rfl ?_
    refine g_getfield (v := .int (J 1)) rfl hr (by decide) rfl ?_
    refine g_imul rfl ?_
    refine g_icmp_ge 109 rfl rfl (fun hc => absurd hc (by rw [i_le, hwn, ek]; omega)) (fun _ => ?_)
    refine g_aload_n (i := 0) rfl rfl ?_
    refine g_getfield (v := .ref 63) rfl hr (by decide) rfl ?_
    refine g_iload (i := 4) rfl rfl ?_
    refine g_aload_n (i := 0) rfl rfl ?_
    refine g_aload_n (i := 0) rfl rfl ?_
    refine g_getfield (v := .ref 76) rfl hr (by decide) rfl ?_
    refine g_iload_n (i := 2) rfl rfl ?_
    refine g_iaload (n := 1000) (f := fc) rfl c76 (i_in (by omega) (by omega)) ?_
    rw [i_nat ei, hfc]
    refine g_iload (i := 4) rfl rfl ?_
    refine g_virt2 (Qc := fun r h' => h' = hz ∧ (((isF s.1 C k = true) ∧ r = some (.int 1)) ∨ (¬ (isF s.1 C k = true) ∧ r = some (.int 0)))) rfl (by decide) rfl hr rfl (Nat.le_of_ble_eq_true rfl) (s_isFirst2 (W := s.1) (H := s.2.1) (q := k) (by omega) hr g hcx hC (by omega)) (fun r hz hq9 => ?_)
    obtain ⟨rfl, ⟨c_1, rfl⟩ | ⟨c_1, rfl⟩⟩ := hq9
    · skip
      refine g_if_eq 99 rfl rfl (fun hc => absurd hc (by decide)) (fun _ => ?_)
      refine g_iload_n (i := 3) rfl rfl ?_
      refine g_goto 102 rfl rfl ?_
      refine g_iastore (n := 64) (f := (fun q => if q < k then owT s.1 C 1 q else ow q)) (h1 := (h.set 63 (.inl (0, 64, .inl (fun q => if q < (k + 1) then owT s.1 C 1 q else ow q))))) rfl h63 (i_in (by omega) (by omega)) (by rw [i_nat ek, ehz, List.set_set, ef ((Int32.ofInt 1)) ((show (Int32.ofInt 1) = Int32.ofNat 1 by decide).trans (if_pos c_1).symm)]) ?_
      refine g_iinc (i := 4) (L1 := [some (.ref 60), some (.int x), some (.int (Int32.ofNat i)), some (.int (Int32.ofInt 1)), some (.int ((Int32.ofNat k) + Int32.ofInt 1))]) rfl rfl rfl ?_
      rw [ofN_add (by omega)]
      refine g_goto 60 rfl rfl ?_
      exact ih (k + 1) (by omega)
    · skip
      refine g_if_eq 99 rfl rfl (fun _ => ?_) (fun hc => absurd hc (by decide))
      refine g_iconst (n := 1) rfl ?_
      refine g_iload_n (i := 3) rfl rfl ?_
      refine g_isub rfl ?_
      refine g_iastore (n := 64) (f := (fun q => if q < k then owT s.1 C 1 q else ow q)) (h1 := (h.set 63 (.inl (0, 64, .inl (fun q => if q < (k + 1) then owT s.1 C 1 q else ow q))))) rfl h63 (i_in (by omega) (by omega)) (by rw [i_nat ek, ehz, List.set_set, ef (((Int32.ofInt 1) - (Int32.ofInt 1))) ((show ((Int32.ofInt 1) - (Int32.ofInt 1)) = Int32.ofNat (1 - 1) by decide).trans (if_neg c_1).symm)]) ?_
      refine g_iinc (i := 4) (L1 := [some (.ref 60), some (.int x), some (.int (Int32.ofNat i)), some (.int (Int32.ofInt 1)), some (.int ((Int32.ofNat k) + Int32.ofInt 1))]) rfl rfl rfl ?_
      rw [ofN_add (by omega)]
      refine g_goto 60 rfl rfl ?_
      exact ih (k + 1) (by omega)
theorem s_two12_go {d : Nat} {hb : sHp} {c : CF} {m : MF} {s : Sg} {L : List Nat} {Jb fc : Nat → Int32} {x : Int32} {fin : T3} {Q : Option Value → sHp → Prop} (hd : 6 ≤ d) (M : MC hb m) (hb7 : ∀ j, j < 7 → Jb j = m.1 j) (gM : gdM m.1 s.1 s.2.1) (g : gdF c s.1 s.2.1) (r : RB c m) (sI : sgI c s) (sJ : sgJ m.1 s) (hk : ∀ C ∈ L, C < 7000 ∧ ¬ C / 1000 = 3) (hl : L.length ≤ 644) (j31 : Jb 31 = Int32.ofNat L.length) (h76 : hb[76]? = some (.inl (0, 1000, .inl fc))) (p1 : ∀ j C, L[j]? = some C → fc j = Int32.ofNat C) (hQ : ∀ (J ow : Nat → Int32) (h : sHp) (o2 o3 o4 : Option Value), rX hb h J ow → jE Jb J → bsJ J fin → sGo none 235 d 132 [some (.ref 60), some (.int x), o2, o3, o4] [] h Q) : ∀ (R P : List Nat) (t : T3) (J ow : Nat → Int32) (h : sHp) (o3 o4 : Option Value), L = P ++ R → rX hb h J ow → jE Jb J → bsJ J t → t.2 ≤ 1000 → twL m s R t = fin → sGo none 235 d 42 [some (.ref 60), some (.int x), some (.int (Int32.ofNat P.length)), o3, o4] [] h Q := by
  have hn := gdF_n g
  intro R
  induction R with
  | nil =>
    intro P t J ow h o3 o4 hL X hJ b ht hf
    rw [List.append_nil] at hL
    subst hL
    have hf : t = fin := hf
    subst hf
    have hr := X.1
    have el := ofN_toInt (n := L.length) (by omega)
    have e6 : (J 31).toInt = ((L.length : Nat) : Int) := by rw [hJ 31 (by decide) (by decide) (by decide) (by decide), j31]; exact el
    refine g_iload_n (i := 2) rfl rfl ?_
    refine g_aload_n (i := 0) rfl rfl ?_
    refine g_getfield (v := .int (J 31)) rfl hr (by decide) rfl ?_
    refine g_icmp_ge 132 rfl rfl (fun _ => ?_) (fun hc => absurd hc (by rw [i_le, e6, el]; omega))
    exact hQ _ _ _ _ _ _ X hJ b
  | cons C R ih =>
    intro P t J ow h o3 o4 hL X hJ b ht hf
    obtain ⟨hat, hL2, hP1, hlen⟩ := two_go hL
    have hr := X.1
    have el := ofN_toInt (n := P.length) (by omega)
    have e6 : (J 31).toInt = ((L.length : Nat) : Int) := by rw [hJ 31 (by decide) (by decide) (by decide) (by decide), j31]; exact ofN_toInt (by omega)
    have hC := hk C (by rw [hL]; exact List.mem_append_right _ (List.mem_cons_self ..))
    have hfc := p1 P.length C hat
    have hj7 : ∀ j, j < 7 → J j = m.1 j := fun j hj => (hJ j (by omega) (by omega) (by omega) (by omega)).trans (hb7 j hj)
    refine g_iload_n (i := 2) rfl rfl ?_
    refine g_aload_n (i := 0) rfl rfl ?_
    refine g_getfield (v := .int (J 31)) rfl hr (by decide) rfl ?_
    refine g_icmp_ge 132 rfl rfl (fun hc => absurd hc (by rw [i_le, e6, el]; omega)) (fun _ => ?_)
    refine g_iconst (n := 0) rfl ?_
    refine g_istore_n (i := 3) (L1 := [some (.ref 60), some (.int x), some (.int (Int32.ofNat P.length)), some (.int (Int32.ofInt 0)), o4]) rfl (Nat.le_of_ble_eq_true rfl) rfl ?_
    show sGo none 235 _ 52 [some (.ref 60), some (.int x), some (.int (Int32.ofNat P.length)), some (.int (Int32.ofInt 0)), o4] [] _ _
    refine g_iload_n (i := 3) rfl rfl ?_
    refine g_iconst (n := 2) rfl ?_
    refine g_icmp_ge 126 rfl rfl (fun hc => absurd hc (by decide)) (fun _ => ?_)
    refine g_iconst (n := 0) rfl ?_
    refine g_istore (i := 4) (L1 := [some (.ref 60), some (.int x), some (.int (Int32.ofNat P.length)), some (.int (Int32.ofInt 0)), some (.int (Int32.ofInt 0))]) rfl (Nat.le_of_ble_eq_true rfl) rfl ?_
    have e0_0 : h = h.set 63 (.inl (0, 64, .inl (fun q => if q < 0 then owT s.1 C 0 q else ow q))) := List.ext_getElem? (fun i => by
      by_cases e : i = 63
      · rw [e, s_set_eq X.2.1, X.2.1]
        exact congrArg (fun f => (some (.inl (0, 64, .inl f)) : Option va_E)) (funext fun i => (if_neg (Nat.not_lt_zero i)).symm)
      · rw [s_set_ne (Ne.symm e)])
    rw [e0_0]
    refine s_two12_q0 (hb := hb) (m := m) (s := s) (C := C) (by omega) X ⟨(hj7 0 (by decide)).trans gM.1, (hj7 1 (by decide)).trans gM.2.1, gM.2.2⟩ h76 (by omega) hfc hC.1 ?_ (s.1 * s.2.1) 0 (Nat.zero_add _)
    have XA0 := rX_ow (ow' := (fun q => if q < (s.1 * s.2.1) then owT s.1 C 0 q else ow q)) X
    have hA0 := XA0.1
    have cA0 := (XA0.2.2.2 76 (by decide) (by decide)).trans h76
    have MA0 := rX_MC XA0 M
    refine g_aload_n (i := 0) rfl rfl ?_
    refine g_aload_n (i := 0) rfl rfl ?_
    refine g_getfield (v := .ref 76) rfl hA0 (by decide) rfl ?_
    refine g_iload_n (i := 2) rfl rfl ?_
    refine g_iaload (n := 1000) (f := fc) rfl cA0 (i_in (by omega) (by omega)) ?_
    rw [i_nat el, hfc]
    refine g_iload_n (i := 3) rfl rfl ?_
    refine g_virt2 rfl (by decide) rfl hA0 rfl (Nat.le_of_ble_eq_true rfl) (s_tryM (d := d) (m := m) (s := s) (c := c) (owc := owT s.1 C 0) (C := C) (C2 := 0) (t := t) hd MA0 hj7 gM g r sI sJ (fun q hq => if_pos hq) (fun q _ => owT_in (by decide)) ht b rfl rfl) (fun r1 h1 hq => ?_)
    obtain ⟨rfl, J1, hr1, eJ1, b1, E1⟩ := hq
    have X1 := rX_60 XA0 E1 hr1
    have hJ1 := jE_tr hJ eJ1
    have hj1 : ∀ j, j < 7 → J1 j = m.1 j := fun j hj => (hJ1 j (by omega) (by omega) (by omega) (by omega)).trans (hb7 j hj)
    have ht1 : ((trS m s C 0 (owT s.1 C 0) t)).2 ≤ 1000 := trS_le ht
    refine g_iinc (i := 3) (L1 := [some (.ref 60), some (.int x), some (.int (Int32.ofNat P.length)), some (.int ((Int32.ofInt 0) + Int32.ofInt 1)), some (.int (Int32.ofNat (s.1 * s.2.1)))]) rfl rfl rfl ?_
    refine g_goto 52 rfl rfl ?_
    show sGo none 235 _ 52 [some (.ref 60), some (.int x), some (.int (Int32.ofNat P.length)), some (.int (Int32.ofInt 1)), some (.int (Int32.ofNat (s.1 * s.2.1)))] [] _ _
    refine g_iload_n (i := 3) rfl rfl ?_
    refine g_iconst (n := 2) rfl ?_
    refine g_icmp_ge 126 rfl rfl (fun hc => absurd hc (by decide)) (fun _ => ?_)
    refine g_iconst (n := 0) rfl ?_
    refine g_istore (i := 4) (L1 := [some (.ref 60), some (.int x), some (.int (Int32.ofNat P.length)), some (.int (Int32.ofInt 1)), some (.int (Int32.ofInt 0))]) rfl (Nat.le_of_ble_eq_true rfl) rfl ?_
    have e0_1 : h1 = h1.set 63 (.inl (0, 64, .inl (fun q => if q < 0 then owT s.1 C 1 q else (fun q => if q < (s.1 * s.2.1) then owT s.1 C 0 q else ow q) q))) := List.ext_getElem? (fun i => by
      by_cases e : i = 63
      · rw [e, s_set_eq X1.2.1, X1.2.1]
        exact congrArg (fun f => (some (.inl (0, 64, .inl f)) : Option va_E)) (funext fun i => (if_neg (Nat.not_lt_zero i)).symm)
      · rw [s_set_ne (Ne.symm e)])
    rw [e0_1]
    refine s_two12_q1 (hb := hb) (m := m) (s := s) (C := C) (by omega) X1 ⟨(hj1 0 (by decide)).trans gM.1, (hj1 1 (by decide)).trans gM.2.1, gM.2.2⟩ h76 (by omega) hfc hC.1 ?_ (s.1 * s.2.1) 0 (Nat.zero_add _)
    have XA1 := rX_ow (ow' := (fun q => if q < (s.1 * s.2.1) then owT s.1 C 1 q else (fun q => if q < (s.1 * s.2.1) then owT s.1 C 0 q else ow q) q)) X1
    have hA1 := XA1.1
    have cA1 := (XA1.2.2.2 76 (by decide) (by decide)).trans h76
    have MA1 := rX_MC XA1 M
    refine g_aload_n (i := 0) rfl rfl ?_
    refine g_aload_n (i := 0) rfl rfl ?_
    refine g_getfield (v := .ref 76) rfl hA1 (by decide) rfl ?_
    refine g_iload_n (i := 2) rfl rfl ?_
    refine g_iaload (n := 1000) (f := fc) rfl cA1 (i_in (by omega) (by omega)) ?_
    rw [i_nat el, hfc]
    refine g_iload_n (i := 3) rfl rfl ?_
    refine g_virt2 rfl (by decide) rfl hA1 rfl (Nat.le_of_ble_eq_true rfl) (s_tryM (d := d) (m := m) (s := s) (c := c) (owc := owT s.1 C 1) (C := C) (C2 := 1) (t := (trS m s C 0 (owT s.1 C 0) t)) hd MA1 hj1 gM g r sI sJ (fun q hq => if_pos hq) (fun q _ => owT_in (by decide)) ht1 b1 rfl rfl) (fun r2 h2 hq => ?_)
    obtain ⟨rfl, J2, hr2, eJ2, b2, E2⟩ := hq
    have X2 := rX_60 XA1 E2 hr2
    have hJ2 := jE_tr hJ1 eJ2
    have hj2 : ∀ j, j < 7 → J2 j = m.1 j := fun j hj => (hJ2 j (by omega) (by omega) (by omega) (by omega)).trans (hb7 j hj)
    have ht2 : ((trS m s C 1 (owT s.1 C 1) (trS m s C 0 (owT s.1 C 0) t))).2 ≤ 1000 := trS_le ht1
    refine g_iinc (i := 3) (L1 := [some (.ref 60), some (.int x), some (.int (Int32.ofNat P.length)), some (.int ((Int32.ofInt 1) + Int32.ofInt 1)), some (.int (Int32.ofNat (s.1 * s.2.1)))]) rfl rfl rfl ?_
    refine g_goto 52 rfl rfl ?_
    show sGo none 235 _ 52 [some (.ref 60), some (.int x), some (.int (Int32.ofNat P.length)), some (.int (Int32.ofInt 2)), some (.int (Int32.ofNat (s.1 * s.2.1)))] [] _ _
    refine g_iload_n (i := 3) rfl rfl ?_
    refine g_iconst (n := 2) rfl ?_
    refine g_icmp_ge 126 rfl rfl (fun _ => ?_) (fun hc => absurd hc (by exact fun z => z (by decide)))
    refine g_iinc (i := 2) (L1 := [some (.ref 60), some (.int x), some (.int ((Int32.ofNat P.length) + Int32.ofInt 1)), some (.int (Int32.ofInt 2)), some (.int (Int32.ofNat (s.1 * s.2.1)))]) rfl rfl rfl ?_
    rw [ofN_add (by omega)]
    refine g_goto 42 rfl rfl ?_
    have key := ih (P ++ [C]) _ J2 _ h2 (some (.int (Int32.ofInt 2))) (some (.int (Int32.ofNat (s.1 * s.2.1)))) hL2 X2 hJ2 b2 ht2 hf
    rw [hP1] at key
    exact key
theorem s_two12 {d : Nat} {h : sHp} {c : CF} {m : MF} {s : Sg} {sp fc R : Nat → Int32} {x : Int32} (hd : 8 ≤ d) (M : MC h m) (hR : h[61]? = some (rFc R)) (gM : gdM m.1 s.1 s.2.1) (g : gdF c s.1 s.2.1) (r : RB c m) (sI : sgI c s) (sJ : sgJ m.1 s) (h76 : h[76]? = some (.inl (0, 1000, .inl fc))) (h77 : h[77]? = some (.inl (0, 64, .inl sp))) (h2 : s.2.2 = 2) (hx : 0 ≤ x.toInt ∧ x.toInt ≤ 2) : sDo d 235 [.ref 60, .int x] h (qB m (twA (twL m s (lsT s.1 s.2.1 true false) (none, 1000)) x.toInt)) := by
  have w8 := gM.2.2.2.1
  have h8 := gM.2.2.2.2.2
  have hn := gdF_n g
  have e774 : m.1 6 = Int32.ofInt 2 := by rw [sJ.2.2.1, h2]; rfl
  refine sDo_of1 (nL := 5) (L := [some (.ref 60), some (.int x), none, none, none]) (by omega) rfl rfl ?_
  refine g_aload_n (i := 0) rfl rfl ?_
  refine g_getfield (v := .int (m.1 6)) rfl M.1 (by decide) rfl ?_
  refine g_iconst (n := 2) rfl ?_
  refine g_icmp_ne 17 rfl rfl (fun hc => absurd hc (by exact fun z => z e774)) (fun _ => ?_)
  refine g_iload_n (i := 1) rfl rfl ?_
  have k_2 : (0 : Int32).toInt = 0 := rfl
  refine g_if_lt 17 rfl rfl (fun c_1 => ?_) (fun c_1 => ?_)
  · skip
    rw [i_lt, k_2] at c_1
    exfalso; omega
  · skip
    rw [i_lt, k_2] at c_1
    refine g_iload_n (i := 1) rfl rfl ?_
    refine g_iconst (n := 2) rfl ?_
    have k_4 : (Int32.ofInt 2).toInt = 2 := rfl
    refine g_icmp_le 24 rfl rfl (fun c_3 => ?_) (fun c_3 => ?_)
    · skip
      rw [i_le, k_4] at c_3
      refine g_aload_n (i := 0) rfl rfl ?_
      refine g_iconst (n := 0) rfl ?_
      refine g_virt1 rfl (by decide) rfl M.1 rfl (Nat.le_of_ble_eq_true rfl) (s_save12 (d := d - 1) (by omega) M.1 M.2.2.1 h77) (fun r1 ha hq => ?_)
      obtain ⟨rfl, rfl⟩ := hq
      have hrA : (h.set 77 (.inl (0, 64, .inl (fun i => if i < 64 then m.2.2.1 i else sp i))))[60]? = some (mO m.1) := by rw [s_set_ne (by decide)]; exact M.1
      refine g_aload_n (i := 0) rfl rfl ?_
      refine g_bipush (n := 22) rfl ?_
      have hls := s_lists12 (d := d - 1) (kd := (Int8.ofInt 22).toInt32) (b4 := true) (b32 := false) (by omega) gM hrA (by rw [s_set_ne (by decide)]; exact h76) (by decide) (by decide) (by decide) (by decide)
      refine g_virt1 rfl (by decide) rfl hrA rfl (Nat.le_of_ble_eq_true rfl) hls (fun r2 hl hq => ?_)
      obtain ⟨rfl, ⟨J2, fc2, hr2, b2, j31, g76, p1⟩, E2⟩ := hq
      refine g_aload_n (i := 0) rfl rfl ?_
      refine g_iconst (n := (-1)) rfl ?_
      refine g_putfield (h1 := hl.set 60 (mO (upd J2 34 (Int32.ofInt (-1))))) rfl hr2 (by decide) (Nat.le_of_ble_eq_true rfl) rfl rfl ?_
      have o77 : ∀ q, q ≠ 60 → q ≠ 76 → q ≠ 77 → (hl.set 60 (mO (upd J2 34 (Int32.ofInt (-1)))))[q]? = h[q]? := fun q h1 h2 h3 => by rw [s_set_ne (Ne.symm h1), E2.2 q h1 h2, s_set_ne (Ne.symm h3)]
      have MB : MC (hl.set 60 (mO (upd J2 34 (Int32.ofInt (-1))))) ((upd J2 34 (Int32.ofInt (-1)), m.2) : MF) := ⟨s_set_eq hr2, (o77 62 (by decide) (by decide) (by decide)).trans M.2.1, (o77 63 (by decide) (by decide) (by decide)).trans M.2.2.1, (o77 64 (by decide) (by decide) (by decide)).trans M.2.2.2.1, (o77 65 (by decide) (by decide) (by decide)).trans M.2.2.2.2.1, (o77 66 (by decide) (by decide) (by decide)).trans M.2.2.2.2.2⟩
      have b7 : ∀ j, j < 7 → upd J2 34 (Int32.ofInt (-1)) j = m.1 j := fun j hj => (u_ne (by omega)).trans (b2 j (by omega))
      have c77 : (hl.set 60 (mO (upd J2 34 (Int32.ofInt (-1)))))[77]? = some (.inl (0, 64, .inl (fun i => if i < 64 then m.2.2.1 i else sp i))) := by rw [s_set_ne (by decide), E2.2 77 (by decide) (by decide)]; exact s_set_eq h77
      have c61 : (hl.set 60 (mO (upd J2 34 (Int32.ofInt (-1)))))[61]? = some (rFc R) := (o77 61 (by decide) (by decide) (by decide)).trans hR
      have X0 : rX (hl.set 60 (mO (upd J2 34 (Int32.ofInt (-1))))) (hl.set 60 (mO (upd J2 34 (Int32.ofInt (-1))))) (upd J2 34 (Int32.ofInt (-1))) m.2.2.1 := ⟨MB.1, MB.2.2.1, rfl, fun _ _ _ => rfl⟩
      refine g_iconst (n := 0) rfl ?_
      refine g_istore_n (i := 2) (L1 := [some (.ref 60), some (.int x), some (.int (Int32.ofInt 0)), none, none]) rfl (Nat.le_of_ble_eq_true rfl) rfl ?_
      have eT : twL m s (lsT s.1 s.2.1 true false) (none, 1000) = twL ((upd J2 34 (Int32.ofInt (-1)), m.2) : MF) s (lsT s.1 s.2.1 true false) (none, 1000) := (twL_J b7 _ _).symm
      refine s_two12_go (d := d - 1) (Jb := upd J2 34 (Int32.ofInt (-1))) (m := ((upd J2 34 (Int32.ofInt (-1)), m.2) : MF)) (fin := twL m s (lsT s.1 s.2.1 true false) (none, 1000)) (by omega) MB (fun _ _ => rfl) ⟨(b7 0 (by decide)).trans gM.1, (b7 1 (by decide)).trans gM.2.1, gM.2.2⟩ g (RB_J7 r b7) sI ⟨(b7 0 (by decide)).trans sJ.1, (b7 1 (by decide)).trans sJ.2.1, (b7 6 (by decide)).trans sJ.2.2.1, sJ.2.2.2⟩ (ls_k2 w8 h8) (ls_len w8 h8) ((u_ne (by decide)).trans j31) (by rw [s_set_ne (by decide)]; exact g76) p1 (fun J ow h3 o2 o3 o4 X hJ b => ?_) (lsT s.1 s.2.1 true false) [] (none, 1000) _ _ _ _ _ rfl X0 jE_rfl ⟨u_at, rfl⟩ (by decide) eT.symm
      have hr := X.1
      have h63 := X.2.1
      have s77 := (X.2.2.2 77 (by decide) (by decide)).trans c77
      have s61 := (X.2.2.2 61 (by decide) (by decide)).trans c61
      have tb : (twL m s (lsT s.1 s.2.1 true false) (none, 1000)).2 ≤ 1000 := twL_le (by decide)
      generalize twL m s (lsT s.1 s.2.1 true false) (none, 1000) = fin at b tb ⊢
      obtain ⟨t1, t2⟩ := fin
      have tb : t2 ≤ 1000 := tb
      rcases t1 with _ | ⟨a, b'⟩
      · have b1 : J 34 = -1 := b.1
        refine g_aload_n (i := 0) rfl rfl ?_
        refine g_iconst (n := 1) rfl ?_
        refine g_virt1 rfl (by decide) rfl hr rfl (Nat.le_of_ble_eq_true rfl) (s_back12 (d := d - 1) (by omega) hr h63 s77) (fun r1 hz hq => ?_)
        obtain ⟨rfl, rfl⟩ := hq
        have hrZ : (h3.set 63 (.inl (0, 64, .inl (fun i => if i < 64 then (fun i => if i < 64 then m.2.2.1 i else sp i) i else ow i))))[60]? = some (mO J) := by rw [s_set_ne (by decide)]; exact hr
        have RZ : (h3.set 63 (.inl (0, 64, .inl (fun i => if i < 64 then (fun i => if i < 64 then m.2.2.1 i else sp i) i else ow i))))[61]? = some (rFc R) := by rw [s_set_ne (by decide)]; exact s61
        have back : ∃ ow', (h3.set 63 (.inl (0, 64, .inl (fun i => if i < 64 then (fun i => if i < 64 then m.2.2.1 i else sp i) i else ow i))))[63]? = some (.inl (0, 64, .inl ow')) ∧ ∀ q, q < 64 → ow' q = m.2.2.1 q := ⟨_, s_set_eq h63, fun q hq => (if_pos hq).trans (if_pos hq)⟩
        refine g_aload_n (i := 0) rfl rfl ?_
        refine g_getfield (v := .int (J 34)) rfl hrZ (by decide) rfl ?_
        refine g_iconst (n := (-1)) rfl ?_
        refine g_icmp_ne 152 rfl rfl (fun hc => absurd hc (by exact fun z => z b1)) (fun _ => ?_)
        refine g_aload_n (i := 0) rfl rfl ?_
        refine g_bipush (n := (-5)) rfl ?_
        refine g_virt1 (Qc := fun r h' => r = some (.int (-5)) ∧ h' = (h3.set 63 (.inl (0, 64, .inl (fun i => if i < 64 then (fun i => if i < 64 then m.2.2.1 i else sp i) i else ow i)))).set 61 (rFc (bump R 5))) rfl (by decide) rfl hrZ rfl (Nat.le_of_ble_eq_true rfl) (s_no2 (X := 5) (by omega) hrZ RZ rfl (by decide)) (fun r h9 hq9 => ?_)
        obtain ⟨rfl, rfl⟩ := hq9
        refine g_ireturn (ty := .int) rfl rfl rfl ?_
        obtain ⟨ow', k1, k2⟩ := back
        exact ⟨rfl, ow', by rw [s_set_ne (by decide)]; exact k1, k2⟩
      · have b1 : J 32 = Int32.ofNat a ∧ J 33 = Int32.ofNat b' ∧ J 34 = Int32.ofNat t2 := b
        have n34 : ¬ J 34 = Int32.ofInt (-1) := fun z => by rw [b1.2.2] at z; have z := congrArg Int32.toInt z; rw [ofC_toInt (by omega)] at z; have e1 : (Int32.ofInt (-1)).toInt = -1 := rfl; omega
        refine g_aload_n (i := 0) rfl rfl ?_
        refine g_iconst (n := 1) rfl ?_
        refine g_virt1 rfl (by decide) rfl hr rfl (Nat.le_of_ble_eq_true rfl) (s_back12 (d := d - 1) (by omega) hr h63 s77) (fun r1 hz hq => ?_)
        obtain ⟨rfl, rfl⟩ := hq
        have hrZ : (h3.set 63 (.inl (0, 64, .inl (fun i => if i < 64 then (fun i => if i < 64 then m.2.2.1 i else sp i) i else ow i))))[60]? = some (mO J) := by rw [s_set_ne (by decide)]; exact hr
        have RZ : (h3.set 63 (.inl (0, 64, .inl (fun i => if i < 64 then (fun i => if i < 64 then m.2.2.1 i else sp i) i else ow i))))[61]? = some (rFc R) := by rw [s_set_ne (by decide)]; exact s61
        have back : ∃ ow', (h3.set 63 (.inl (0, 64, .inl (fun i => if i < 64 then (fun i => if i < 64 then m.2.2.1 i else sp i) i else ow i))))[63]? = some (.inl (0, 64, .inl ow')) ∧ ∀ q, q < 64 → ow' q = m.2.2.1 q := ⟨_, s_set_eq h63, fun q hq => (if_pos hq).trans (if_pos hq)⟩
        refine g_aload_n (i := 0) rfl rfl ?_
        refine g_getfield (v := .int (J 34)) rfl hrZ (by decide) rfl ?_
        refine g_iconst (n := (-1)) rfl ?_
        refine g_icmp_ne 152 rfl rfl (fun _ => ?_) (fun hc => absurd hc (by exact n34))
        refine g_iload_n (i := 1) rfl rfl ?_
        have k_2 : (0 : Int32).toInt = 0 := rfl
        refine g_if_ne 163 rfl rfl (fun c_1 => ?_) (fun c_1 => ?_)
        · skip
          rw [i_eq, k_2] at c_1
          refine g_iload_n (i := 1) rfl rfl ?_
          refine g_iconst (n := 1) rfl ?_
          have k_4 : (Int32.ofInt 1).toInt = 1 := rfl
          refine g_icmp_ne 175 rfl rfl (fun c_3 => ?_) (fun c_3 => ?_)
          · skip
            rw [i_eq, k_4] at c_3
            refine g_aload_n (i := 0) rfl rfl ?_
            refine g_getfield (v := .int (J 34)) rfl hrZ (by decide) rfl ?_
            refine g_ireturn (ty := .int) rfl rfl rfl ?_
            refine ⟨?_, back⟩
            show _ = some (Value.int (if x.toInt = 0 then Int32.ofNat a else if x.toInt = 1 then Int32.ofNat b' else Int32.ofNat t2))
            rw [if_neg (show ¬ x.toInt = 0 by omega), if_neg (show ¬ x.toInt = 1 by omega), b1.2.2]
          · skip
            rw [i_eq, k_4] at c_3
            refine g_aload_n (i := 0) rfl rfl ?_
            refine g_getfield (v := .int (J 33)) rfl hrZ (by decide) rfl ?_
            refine g_goto 179 rfl rfl ?_
            refine g_ireturn (ty := .int) rfl rfl rfl ?_
            refine ⟨?_, back⟩
            show _ = some (Value.int (if x.toInt = 0 then Int32.ofNat a else if x.toInt = 1 then Int32.ofNat b' else Int32.ofNat t2))
            rw [if_neg (show ¬ x.toInt = 0 by omega), if_pos (show x.toInt = 1 by omega), b1.2.1]
        · skip
          rw [i_eq, k_2] at c_1
          refine g_aload_n (i := 0) rfl rfl ?_
          refine g_getfield (v := .int (J 32)) rfl hrZ (by decide) rfl ?_
          refine g_goto 179 rfl rfl ?_
          refine g_ireturn (ty := .int) rfl rfl rfl ?_
          refine ⟨?_, back⟩
          show _ = some (Value.int (if x.toInt = 0 then Int32.ofNat a else if x.toInt = 1 then Int32.ofNat b' else Int32.ofNat t2))
          rw [if_pos (show x.toInt = 0 by omega), b1.1]
    · skip
      rw [i_le, k_4] at c_3
      exfalso; omega
end
