/-! ===== faults of a parting, the reference ===== -/
def fcI (o : Option (Nat × Nat)) : Int32 := match o with
  | none => 0
  | some (f, _) => Int32.ofNat f
def cuI (o : Option (Nat × Nat)) : Int32 := match o with
  | none => Int32.ofInt (-1)
  | some (_, i) => Int32.ofNat i
def e60 (h h' : sHp) : Prop := h'.length = h.length ∧ ∀ q, q ≠ 60 → h'[q]? = h[q]?
theorem e60_rfl {h : sHp} : e60 h h := ⟨rfl, fun _ _ => rfl⟩
theorem e60_set {h h1 : sHp} {x : va_E} (a : e60 h h1) : e60 h (h1.set 60 x) := ⟨by rw [List.length_set]; exact a.1, fun q hq => by rw [s_set_ne (Ne.symm hq)]; exact a.2 q hq⟩
def qF (h0 : sHp) (J0 : Nat → Int32) (o : Option (Nat × Nat)) (r : Option Value) (h' : sHp) : Prop := ∃ J' : Nat → Int32, h'[60]? = some (mO J') ∧ (∀ j, j ≠ 28 → J' j = J0 j) ∧ J' 28 = cuI o ∧ e60 h0 h' ∧ r = some (.int (fcI o))
theorem qF_some {h : sHp} {J : Nat → Int32} {f i : Nat} (hr : h[60]? = some (mO J)) : qF h J (some (f, i)) (some (.int (Int32.ofNat f))) (h.set 60 (mO (upd J 28 (Int32.ofNat i)))) := ⟨_, s_set_eq hr, fun j hj => u_ne hj, u_at, e60_set e60_rfl, rfl⟩
theorem cdS_lt {i : Nat} (h : i < 5) : cdS i = Int32.ofNat i := by
  unfold cdS
  rw [if_neg (by omega), if_neg (by omega)]
theorem s_pc12 {d : Nat} {h : sHp} {m : MF} {W H k : Nat} {S : Nat → Int64} {v : Int32} (hd : 1 ≤ d) (M : MC h m) (g : gdM m.1 W H) (P : PT S m.2.2.1 (W * H)) (hk : k < 7) (hv : v = cdS k) : sDo d 213 [.ref 60, .int v] h (fun r h' => h' = h ∧ r = some (.long (S k))) := by
  rw [P.1 k hk, ← hv]
  exact s_piece12 hd M g
theorem s_fn_22 {d : Nat} {h0 : sHp} {J0 : Nat → Int32} {x : Int64} {j : Nat} {o3 o4 o5 o6 o7 o8 o9 : Option Value} (hd : 1 ≤ d) (hj : j < 64) (h1 : bt x j = true) (hl : ∀ i, i < j → bt x i = false) : ∀ (f k : Nat) (h : sHp) (J : Nat → Int32), k + f = j → h[60]? = some (mO J) → (∀ i, i ≠ 28 → J i = J0 i) → J 28 = Int32.ofNat k → e60 h0 h → sGo none 227 d 22 [some (.ref 60), some (.long x), none, o3, o4, o5, o6, o7, o8, o9] [] h (qF h0 J0 (some (1, j))) := by
  intro f
  induction f with
  | zero =>
    intro k h J hk hr hJ h28 E
    have kj : k = j := by omega
    subst kj
    refine g_aload_n (i := 0) rfl rfl ?_
    refine g_lload_n (i := 1) rfl rfl ?_
    refine g_aload_n (i := 0) rfl rfl ?_
    refine g_getfield (v := .int (J 28)) rfl hr (by decide) rfl ?_
    rw [h28]
    refine g_virt2 (Qc := fun r h' => h' = h ∧ r = some (.int (zI (bt x k = true)))) rfl (by decide) rfl hr rfl (Nat.le_of_ble_eq_true rfl) (s_hasE (by omega) hr (by omega)) (fun r h hq9 => ?_)
    obtain ⟨rfl, rfl⟩ := hq9
    refine g_if_ne 47 rfl rfl (fun _ => ?_) (fun hc => absurd hc (by rw [zI_pos h1]; decide))
    refine g_iconst (n := 1) rfl ?_
    refine g_ireturn (ty := .int) rfl rfl rfl ?_
    exact ⟨J, hr, hJ, h28, E, rfl⟩
  | succ f ih =>
    intro k h J hk hr hJ h28 E
    have hz := hl k (by omega)
    have hz2 : ¬ bt x k = true := fun z => by rw [hz] at z; cases z
    refine g_aload_n (i := 0) rfl rfl ?_
    refine g_lload_n (i := 1) rfl rfl ?_
    refine g_aload_n (i := 0) rfl rfl ?_
    refine g_getfield (v := .int (J 28)) rfl hr (by decide) rfl ?_
    rw [h28]
    refine g_virt2 (Qc := fun r h' => h' = h ∧ r = some (.int (zI (bt x k = true)))) rfl (by decide) rfl hr rfl (Nat.le_of_ble_eq_true rfl) (s_hasE (by omega) hr (by omega)) (fun r h hq9 => ?_)
    obtain ⟨rfl, rfl⟩ := hq9
    refine g_if_ne 47 rfl rfl (fun hc => absurd hc (by intro z; exact z (zI_neg hz2))) (fun _ => ?_)
    refine g_aload_n (i := 0) rfl rfl ?_
    refine g_dup rfl rfl ?_
    refine g_getfield (v := .int (J 28)) rfl hr (by decide) rfl ?_
    refine g_iconst (n := 1) rfl ?_
    refine g_iadd rfl ?_
    rw [h28, show Int32.ofNat k + Int32.ofInt 1 = Int32.ofNat (k + 1) from ofN_add (by omega)]
    refine g_putfield (h1 := h.set 60 (mO (upd J 28 (Int32.ofNat (k + 1))))) rfl hr (by decide) (Nat.le_of_ble_eq_true rfl) rfl rfl ?_
    refine g_goto 22 rfl rfl ?_
    exact ih (k + 1) _ _ (by omega) (s_set_eq hr) (fun i hi => (u_ne hi).trans (hJ i hi)) u_at (e60_set E)
theorem s_fn2 {d : Nat} {h : sHp} {c : CF} {m : MF} {s : Sg} {S : Nat → Int64} {x : Int64} {R : Option (Nat × Nat)} {o6 o7 o8 o9 : Option Value} (hd : 4 ≤ d) (M : MC h m) (gM : gdM m.1 s.1 s.2.1) (g : gdF c s.1 s.2.1) (r : RB c m) (sI : sgI c s) (sJ : sgJ m.1 s) (P : PT S m.2.2.1 (s.1 * s.2.1)) (hnone : ∀ (o3 o4 o5 : Option Value), sGo none 227 d 105 [some (.ref 60), some (.long x), none, o3, o4, o5, o6, o7, o8, o9] [] h (qF h m.1 (R))) : ∀ (f k : Nat) (o4 o5 : Option Value), k + f = s.2.2 → sGo none 227 d 51 [some (.ref 60), some (.long x), none, some (.int (Int32.ofNat k)), o4, o5, o6, o7, o8, o9] [] h (qF h m.1 (vdT (fst1 (fltP m s S 2) f k) 2 R)) := by
  have hr := M.1
  have n5 := sI.2.2.2.2.2.2.2
  have hn := gdF_n g
  have RS := (r.2 s sI).1
  have e6 : (m.1 6).toInt = ((s.2.2 : Nat) : Int) := by rw [sJ.2.2.1]; exact ofN_toInt (by omega)
  intro f
  induction f with
  | zero =>
    intro k o4 o5 hk
    have ek := ofN_toInt (n := k) (by omega)
    refine g_iload_n (i := 3) rfl rfl ?_
    refine g_aload_n (i := 0) rfl rfl ?_
    refine g_getfield (v := .int (m.1 6)) rfl hr (by decide) rfl ?_
    refine g_icmp_ge 105 rfl rfl (fun _ => ?_) (fun hc => absurd hc (by rw [i_le, e6, ek]; omega))
    exact hnone _ _ _
  | succ f ih =>
    intro k o4 o5 hk
    have ek := ofN_toInt (n := k) (by omega)
    have hk5 : k < s.2.2 := by omega
    have RP := (RP_k r sI).2.2
    have es : (m.1 5).toInt = ((smN m : Nat) : Int) := by unfold smN; omega
    have hpl := ptS_le (W := s.1) (n := (s.1 * s.2.1)) 64 (S k)
    have hcl := cnt_le (S k)
    have ep := ofN_toInt (n := ptS s.1 (s.1 * s.2.1) 64 (S k)) (by omega)
    have ec := ofN_toInt (n := cnt (S k)) (by omega)
    refine g_iload_n (i := 3) rfl rfl ?_
    refine g_aload_n (i := 0) rfl rfl ?_
    refine g_getfield (v := .int (m.1 6)) rfl hr (by decide) rfl ?_
    refine g_icmp_ge 105 rfl rfl (fun hc => absurd hc (by rw [i_le, e6, ek]; omega)) (fun _ => ?_)
    refine g_aload_n (i := 0) rfl rfl ?_
    refine g_iload_n (i := 3) rfl rfl ?_
    refine g_virt1 (Qc := fun r h' => h' = h ∧ r = some (.long (S k))) rfl (by decide) rfl hr rfl (Nat.le_of_ble_eq_true rfl) (s_pc12 (k := k) (by omega) M gM P (by omega) (cdS_lt (by omega)).symm) (fun r h hq9 => ?_)
    obtain ⟨rfl, rfl⟩ := hq9
    refine g_lstore (i := 4) (L1 := [some (.ref 60), some (.long x), none, some (.int (Int32.ofNat k)), some (.long (S k)), none, o6, o7, o8, o9]) rfl (Nat.le_of_ble_eq_true rfl) rfl ?_
    refine g_aload_n (i := 0) rfl rfl ?_
    refine g_lload (i := 4) rfl rfl ?_
    refine g_virt1 (Qc := fun r h' => h' = h ∧ r = some (.int (Int32.ofNat (ptS s.1 (s.1 * s.2.1) 64 (S k))))) rfl (by decide) rfl hr rfl (Nat.le_of_ble_eq_true rfl) (s_partsOf (by omega) hr gM) (fun r h hq9 => ?_)
    obtain ⟨rfl, rfl⟩ := hq9
    refine g_iconst (n := 2) rfl ?_
    have k_2 : (Int32.ofInt 2).toInt = 2 := rfl
    refine g_icmp_ge 92 rfl rfl (fun c_1 => ?_) (fun c_1 => ?_)
    · skip
      rw [i_le, ep, k_2] at c_1
      have yf : fltP m s S 2 k := fun z => by have z1 := z.1; have z2 := z.2; omega
      rw [fst1_y yf]
      refine g_aload_n (i := 0) rfl rfl ?_
      refine g_iload_n (i := 3) rfl rfl ?_
      refine g_putfield (h1 := h.set 60 (mO (upd m.1 28 (Int32.ofNat k)))) rfl hr (by decide) (Nat.le_of_ble_eq_true rfl) rfl rfl ?_
      refine g_iconst (n := 2) rfl ?_
      refine g_ireturn (ty := .int) rfl rfl rfl ?_
      exact qF_some hr
    · skip
      rw [i_le, ep, k_2] at c_1
      refine g_aload_n (i := 0) rfl rfl ?_
      refine g_lload (i := 4) rfl rfl ?_
      refine g_virt1 (Qc := fun r h' => h' = h ∧ r = some (.int (Int32.ofNat (cnt (S k))))) rfl (by decide) rfl hr rfl (Nat.le_of_ble_eq_true rfl) (s_manyE (by omega)) (fun r h hq9 => ?_)
      obtain ⟨rfl, rfl⟩ := hq9
      refine g_aload_n (i := 0) rfl rfl ?_
      refine g_getfield (v := .int (m.1 5)) rfl hr (by decide) rfl ?_
      refine g_icmp_lt 92 rfl rfl (fun c_3 => ?_) (fun c_3 => ?_)
      · skip
        rw [i_lt, ec, es] at c_3
        have yf : fltP m s S 2 k := fun z => by have z1 := z.1; have z2 := z.2; omega
        rw [fst1_y yf]
        refine g_aload_n (i := 0) rfl rfl ?_
        refine g_iload_n (i := 3) rfl rfl ?_
        refine g_putfield (h1 := h.set 60 (mO (upd m.1 28 (Int32.ofNat k)))) rfl hr (by decide) (Nat.le_of_ble_eq_true rfl) rfl rfl ?_
        refine g_iconst (n := 2) rfl ?_
        refine g_ireturn (ty := .int) rfl rfl rfl ?_
        exact qF_some hr
      · skip
        rw [i_lt, ec, es] at c_3
        refine g_goto 99 rfl rfl ?_
        refine g_iinc (i := 3) (L1 := [some (.ref 60), some (.long x), none, some (.int ((Int32.ofNat k) + Int32.ofInt 1)), some (.long (S k)), none, o6, o7, o8, o9]) rfl rfl rfl ?_
        rw [ofN_add (by omega)]
        refine g_goto 51 rfl rfl ?_
        have nf : ¬ fltP m s S 2 k := fun z => z ⟨by omega, by omega⟩
        rw [fst1_n nf]
        exact ih (k + 1) _ _ (by omega)
theorem s_fn3 {d : Nat} {h : sHp} {c : CF} {m : MF} {s : Sg} {S : Nat → Int64} {x : Int64} {R : Option (Nat × Nat)} {o8 o9 : Option Value} (hd : 4 ≤ d) (M : MC h m) (gM : gdM m.1 s.1 s.2.1) (g : gdF c s.1 s.2.1) (r : RB c m) (sI : sgI c s) (sJ : sgJ m.1 s) (P : PT S m.2.2.1 (s.1 * s.2.1)) (hnone : ∀ (o7 : Option Value), sGo none 227 d 177 [some (.ref 60), some (.long x), none, some (.long (S 5)), none, some (.long (rdS s.1 s.2.1 (m.1 2).toInt ||| besS s.1 (s.1 * s.2.1) (grF s.1 (s.1 * s.2.1) (S 5) ((S 5 &&& rdS s.1 s.2.1 (m.1 2).toInt) &&& S 5)))), none, o7, o8, o9] [] h (qF h m.1 (R))) : ∀ (f k : Nat), k + f = s.2.2 → sGo none 227 d 137 [some (.ref 60), some (.long x), none, some (.long (S 5)), none, some (.long (rdS s.1 s.2.1 (m.1 2).toInt ||| besS s.1 (s.1 * s.2.1) (grF s.1 (s.1 * s.2.1) (S 5) ((S 5 &&& rdS s.1 s.2.1 (m.1 2).toInt) &&& S 5)))), none, some (.int (Int32.ofNat k)), o8, o9] [] h (qF h m.1 (vdT (fst1 (fltP m s S 3) f k) 3 R)) := by
  have hr := M.1
  have n5 := sI.2.2.2.2.2.2.2
  have hn := gdF_n g
  have RS := (r.2 s sI).1
  have e6 : (m.1 6).toInt = ((s.2.2 : Nat) : Int) := by rw [sJ.2.2.1]; exact ofN_toInt (by omega)
  intro f
  induction f with
  | zero =>
    intro k hk
    have ek := ofN_toInt (n := k) (by omega)
    refine g_iload (i := 7) rfl rfl ?_
    refine g_aload_n (i := 0) rfl rfl ?_
    refine g_getfield (v := .int (m.1 6)) rfl hr (by decide) rfl ?_
    refine g_icmp_ge 177 rfl rfl (fun _ => ?_) (fun hc => absurd hc (by rw [i_le, e6, ek]; omega))
    exact hnone _
  | succ f ih =>
    intro k hk
    have ek := ofN_toInt (n := k) (by omega)
    have hk5 : k < s.2.2 := by omega
    refine g_iload (i := 7) rfl rfl ?_
    refine g_aload_n (i := 0) rfl rfl ?_
    refine g_getfield (v := .int (m.1 6)) rfl hr (by decide) rfl ?_
    refine g_icmp_ge 177 rfl rfl (fun hc => absurd hc (by rw [i_le, e6, ek]; omega)) (fun _ => ?_)
    refine g_aload_n (i := 0) rfl rfl ?_
    refine g_iload (i := 7) rfl rfl ?_
    refine g_virt1 (Qc := fun r h' => h' = h ∧ r = some (.long (S k))) rfl (by decide) rfl hr rfl (Nat.le_of_ble_eq_true rfl) (s_pc12 (k := k) (by omega) M gM P (by omega) (cdS_lt (by omega)).symm) (fun r h hq9 => ?_)
    obtain ⟨rfl, rfl⟩ := hq9
    refine g_lload (i := 5) rfl rfl ?_
    refine g_land rfl ?_
    refine g_lconst (n := 0) rfl ?_
    show sGo none 227 _ 156 [some (.ref 60), some (.long x), none, some (.long (S 5)), none, some (.long (rdS s.1 s.2.1 (m.1 2).toInt ||| besS s.1 (s.1 * s.2.1) (grF s.1 (s.1 * s.2.1) (S 5) ((S 5 &&& rdS s.1 s.2.1 (m.1 2).toInt) &&& S 5)))), none, some (.int (Int32.ofNat k)), o8, o9] [.long (Int64.ofNat 0), .long ((S k) &&& (rdS s.1 s.2.1 (m.1 2).toInt ||| besS s.1 (s.1 * s.2.1) (grF s.1 (s.1 * s.2.1) (S 5) ((S 5 &&& rdS s.1 s.2.1 (m.1 2).toInt) &&& S 5))))] _ _
    refine g_lcmp rfl ?_
    refine g_if_eq 163 rfl rfl (fun c_1 => ?_) (fun c_1 => ?_)
    · skip
      rw [lc_eq] at c_1
      rw [fst1_y (show fltP m s S 3 k from c_1)]
      refine g_aload_n (i := 0) rfl rfl ?_
      refine g_iload (i := 7) rfl rfl ?_
      refine g_putfield (h1 := h.set 60 (mO (upd m.1 28 (Int32.ofNat k)))) rfl hr (by decide) (Nat.le_of_ble_eq_true rfl) rfl rfl ?_
      refine g_iconst (n := 3) rfl ?_
      refine g_ireturn (ty := .int) rfl rfl rfl ?_
      exact qF_some hr
    · skip
      rw [lc_eq] at c_1
      refine g_goto 171 rfl rfl ?_
      refine g_iinc (i := 7) (L1 := [some (.ref 60), some (.long x), none, some (.long (S 5)), none, some (.long (rdS s.1 s.2.1 (m.1 2).toInt ||| besS s.1 (s.1 * s.2.1) (grF s.1 (s.1 * s.2.1) (S 5) ((S 5 &&& rdS s.1 s.2.1 (m.1 2).toInt) &&& S 5)))), none, some (.int ((Int32.ofNat k) + Int32.ofInt 1)), o8, o9]) rfl rfl rfl ?_
      rw [ofN_add (by omega)]
      refine g_goto 137 rfl rfl ?_
      rw [fst1_n (show ¬ fltP m s S 3 k from c_1)]
      exact ih (k + 1) (by omega)
theorem s_fn4 {d : Nat} {h : sHp} {c : CF} {m : MF} {s : Sg} {S : Nat → Int64} {x : Int64} {R : Option (Nat × Nat)} {w : Nat} (hd : 4 ≤ d) (M : MC h m) (gM : gdM m.1 s.1 s.2.1) (g : gdF c s.1 s.2.1) (r : RB c m) (sI : sgI c s) (sJ : sgJ m.1 s) (P : PT S m.2.2.1 (s.1 * s.2.1)) (hw : m.1 3 = Int32.ofNat w) (hwn : w < (s.1 * s.2.1)) (hwl : S 5 &&& (Int64.ofNat 1 <<< ((Int32.ofNat w).toInt64 &&& 63)) = Int64.ofNat 0) (hnone : ∀ (o7 o8 o9 : Option Value), sGo none 227 d 261 [some (.ref 60), some (.long x), none, some (.long (S 5)), none, some (.long (rdS s.1 s.2.1 (m.1 2).toInt ||| besS s.1 (s.1 * s.2.1) (grF s.1 (s.1 * s.2.1) (S 5) ((S 5 &&& rdS s.1 s.2.1 (m.1 2).toInt) &&& S 5)))), none, o7, o8, o9] [] h (qF h m.1 (R))) : ∀ (f k : Nat), k + f = s.2.2 → sGo none 227 d 221 [some (.ref 60), some (.long x), none, some (.long (S 5)), none, some (.long (rdS s.1 s.2.1 (m.1 2).toInt ||| besS s.1 (s.1 * s.2.1) (grF s.1 (s.1 * s.2.1) (S 5) ((S 5 &&& rdS s.1 s.2.1 (m.1 2).toInt) &&& S 5)))), none, some (.long (besS s.1 (s.1 * s.2.1) (Int64.ofNat 1 <<< ((Int32.ofNat w).toInt64 &&& 63)) ||| (Int64.ofNat 1 <<< ((Int32.ofNat w).toInt64 &&& 63)))), none, some (.int (Int32.ofNat k))] [] h (qF h m.1 (vdT (fst1 (fltP m s S 4) f k) 4 R)) := by
  have hr := M.1
  have n5 := sI.2.2.2.2.2.2.2
  have hn := gdF_n g
  have RS := (r.2 s sI).1
  have e6 : (m.1 6).toInt = ((s.2.2 : Nat) : Int) := by rw [sJ.2.2.1]; exact ofN_toInt (by omega)
  intro f
  induction f with
  | zero =>
    intro k hk
    have ek := ofN_toInt (n := k) (by omega)
    refine g_iload (i := 9) rfl rfl ?_
    refine g_aload_n (i := 0) rfl rfl ?_
    refine g_getfield (v := .int (m.1 6)) rfl hr (by decide) rfl ?_
    refine g_icmp_ge 261 rfl rfl (fun _ => ?_) (fun hc => absurd hc (by rw [i_le, e6, ek]; omega))
    exact hnone _ _ _
  | succ f ih =>
    intro k hk
    have ek := ofN_toInt (n := k) (by omega)
    have hk5 : k < s.2.2 := by omega
    have oc : (besS s.1 (s.1 * s.2.1) (Int64.ofNat 1 <<< ((Int32.ofNat w).toInt64 &&& 63)) ||| (Int64.ofNat 1 <<< ((Int32.ofNat w).toInt64 &&& 63))) = ((Int64.ofNat 1 <<< ((Int32.ofNat w).toInt64 &&& 63)) ||| besS s.1 (s.1 * s.2.1) (Int64.ofNat 1 <<< ((Int32.ofNat w).toInt64 &&& 63))) := bt_ext (fun q _ => by rw [bt_or, bt_or, Bool.or_comm])
    refine g_iload (i := 9) rfl rfl ?_
    refine g_aload_n (i := 0) rfl rfl ?_
    refine g_getfield (v := .int (m.1 6)) rfl hr (by decide) rfl ?_
    refine g_icmp_ge 261 rfl rfl (fun hc => absurd hc (by rw [i_le, e6, ek]; omega)) (fun _ => ?_)
    refine g_aload_n (i := 0) rfl rfl ?_
    refine g_iload (i := 9) rfl rfl ?_
    refine g_virt1 (Qc := fun r h' => h' = h ∧ r = some (.long (S k))) rfl (by decide) rfl hr rfl (Nat.le_of_ble_eq_true rfl) (s_pc12 (k := k) (by omega) M gM P (by omega) (cdS_lt (by omega)).symm) (fun r h hq9 => ?_)
    obtain ⟨rfl, rfl⟩ := hq9
    refine g_lload (i := 7) rfl rfl ?_
    refine g_land rfl ?_
    refine g_lconst (n := 0) rfl ?_
    show sGo none 227 _ 240 [some (.ref 60), some (.long x), none, some (.long (S 5)), none, some (.long (rdS s.1 s.2.1 (m.1 2).toInt ||| besS s.1 (s.1 * s.2.1) (grF s.1 (s.1 * s.2.1) (S 5) ((S 5 &&& rdS s.1 s.2.1 (m.1 2).toInt) &&& S 5)))), none, some (.long (besS s.1 (s.1 * s.2.1) (Int64.ofNat 1 <<< ((Int32.ofNat w).toInt64 &&& 63)) ||| (Int64.ofNat 1 <<< ((Int32.ofNat w).toInt64 &&& 63)))), none, some (.int (Int32.ofNat k))] [.long (Int64.ofNat 0), .long ((S k) &&& (besS s.1 (s.1 * s.2.1) (Int64.ofNat 1 <<< ((Int32.ofNat w).toInt64 &&& 63)) ||| (Int64.ofNat 1 <<< ((Int32.ofNat w).toInt64 &&& 63))))] _ _
    refine g_lcmp rfl ?_
    refine g_if_eq 247 rfl rfl (fun c_1 => ?_) (fun c_1 => ?_)
    · skip
      rw [lc_eq] at c_1
      rw [oc] at c_1
      rw [fst1_y (show fltP m s S 4 k from ⟨w, hwn, hw, hwl, c_1⟩)]
      refine g_aload_n (i := 0) rfl rfl ?_
      refine g_iload (i := 9) rfl rfl ?_
      refine g_putfield (h1 := h.set 60 (mO (upd m.1 28 (Int32.ofNat k)))) rfl hr (by decide) (Nat.le_of_ble_eq_true rfl) rfl rfl ?_
      refine g_iconst (n := 4) rfl ?_
      refine g_ireturn (ty := .int) rfl rfl rfl ?_
      exact qF_some hr
    · skip
      rw [lc_eq] at c_1
      refine g_goto 255 rfl rfl ?_
      refine g_iinc (i := 9) (L1 := [some (.ref 60), some (.long x), none, some (.long (S 5)), none, some (.long (rdS s.1 s.2.1 (m.1 2).toInt ||| besS s.1 (s.1 * s.2.1) (grF s.1 (s.1 * s.2.1) (S 5) ((S 5 &&& rdS s.1 s.2.1 (m.1 2).toInt) &&& S 5)))), none, some (.long (besS s.1 (s.1 * s.2.1) (Int64.ofNat 1 <<< ((Int32.ofNat w).toInt64 &&& 63)) ||| (Int64.ofNat 1 <<< ((Int32.ofNat w).toInt64 &&& 63)))), none, some (.int ((Int32.ofNat k) + Int32.ofInt 1))]) rfl rfl rfl ?_
      rw [ofN_add (by omega)]
      refine g_goto 221 rfl rfl ?_
      rw [oc] at c_1
      have nf : ¬ fltP m s S 4 k := fun z => by
        obtain ⟨w2, h2, e2, z1, z2⟩ := z
        obtain rfl : w2 = w := ofN_inj (by omega) (by omega) (e2.symm.trans hw)
        exact c_1 z2
      rw [fst1_n nf]
      exact ih (k + 1) (by omega)
theorem s_fn5 {d : Nat} {h : sHp} {c : CF} {m : MF} {s : Sg} {S : Nat → Int64} {x : Int64} {o8 o9 : Option Value} (hd : 4 ≤ d) (M : MC h m) (gM : gdM m.1 s.1 s.2.1) (g : gdF c s.1 s.2.1) (r : RB c m) (sI : sgI c s) (sJ : sgJ m.1 s) (P : PT S m.2.2.1 (s.1 * s.2.1)) (h28 : m.1 28 = Int32.ofInt (-1)) : ∀ (f k : Nat), k + f = s.2.2 → sGo none 227 d 264 [some (.ref 60), some (.long x), none, some (.long (S 5)), none, some (.long (rdS s.1 s.2.1 (m.1 2).toInt ||| besS s.1 (s.1 * s.2.1) (grF s.1 (s.1 * s.2.1) (S 5) ((S 5 &&& rdS s.1 s.2.1 (m.1 2).toInt) &&& S 5)))), none, some (.int (Int32.ofNat k)), o8, o9] [] h (qF h m.1 (vdT (fst1 (fltP m s S 5) f k) 5 none)) := by
  have hr := M.1
  have n5 := sI.2.2.2.2.2.2.2
  have hn := gdF_n g
  have RS := (r.2 s sI).1
  have e6 : (m.1 6).toInt = ((s.2.2 : Nat) : Int) := by rw [sJ.2.2.1]; exact ofN_toInt (by omega)
  intro f
  induction f with
  | zero =>
    intro k hk
    have ek := ofN_toInt (n := k) (by omega)
    refine g_iload (i := 7) rfl rfl ?_
    refine g_aload_n (i := 0) rfl rfl ?_
    refine g_getfield (v := .int (m.1 6)) rfl hr (by decide) rfl ?_
    refine g_icmp_ge 328 rfl rfl (fun _ => ?_) (fun hc => absurd hc (by rw [i_le, e6, ek]; omega))
    refine g_iconst (n := 0) rfl ?_
    refine g_ireturn (ty := .int) rfl rfl rfl ?_
    exact ⟨m.1, hr, fun _ _ => rfl, h28, e60_rfl, rfl⟩
  | succ f ih =>
    intro k hk
    have ek := ofN_toInt (n := k) (by omega)
    have hk5 : k < s.2.2 := by omega
    have a1 := wV_le (x := S k) hn.1 RS hk5
    have a2 := wV_le (x := stO (fun _ => true) (s.1 * s.2.1)) hn.1 RS hk5
    have a3 := ssN_le (m := m) s.2.2 (fun i hi => (RB_sh RS hi).2.1)
    have a4 := RB_sh RS hk5
    have ew1 := ofC_toInt (n := wV m (s.1 * s.2.1) k (S k)) (by omega)
    have ew2 := ofC_toInt (n := wV m (s.1 * s.2.1) k (stO (fun _ => true) (s.1 * s.2.1))) (by omega)
    have p1 : wV m (s.1 * s.2.1) k (S k) * ssN m s.2.2 ≤ 6356 * 45 := Nat.mul_le_mul a1 (by omega)
    have p2 : shN m k * wV m (s.1 * s.2.1) k (stO (fun _ => true) (s.1 * s.2.1)) ≤ 9 * 6356 := Nat.mul_le_mul a4.2.1 a2
    have m1 : (Int32.ofNat (wV m (s.1 * s.2.1) k (S k)) * Int32.ofNat (ssN m s.2.2)).toInt = ((wV m (s.1 * s.2.1) k (S k) * ssN m s.2.2 : Nat) : Int) := n_mul (ofC_toInt (by omega)) (ofC_toInt (by omega)) (by omega)
    have m2 : (Int32.ofNat (shN m k) * Int32.ofNat (wV m (s.1 * s.2.1) k (stO (fun _ => true) (s.1 * s.2.1)))).toInt = ((shN m k * wV m (s.1 * s.2.1) k (stO (fun _ => true) (s.1 * s.2.1)) : Nat) : Int) := n_mul (ofC_toInt (by omega)) (ofC_toInt (by omega)) (by omega)
    refine g_iload (i := 7) rfl rfl ?_
    refine g_aload_n (i := 0) rfl rfl ?_
    refine g_getfield (v := .int (m.1 6)) rfl hr (by decide) rfl ?_
    refine g_icmp_ge 328 rfl rfl (fun hc => absurd hc (by rw [i_le, e6, ek]; omega)) (fun _ => ?_)
    refine g_aload_n (i := 0) rfl rfl ?_
    refine g_iload (i := 7) rfl rfl ?_
    refine g_aload_n (i := 0) rfl rfl ?_
    refine g_iload (i := 7) rfl rfl ?_
    refine g_virt1 (Qc := fun r h' => h' = h ∧ r = some (.long (S k))) rfl (by decide) rfl hr rfl (Nat.le_of_ble_eq_true rfl) (s_pc12 (k := k) (by omega) M gM P (by omega) (cdS_lt (by omega)).symm) (fun r h hq9 => ?_)
    obtain ⟨rfl, rfl⟩ := hq9
    refine g_virt2 (Qc := fun r h' => h' = h ∧ r = some (.int (Int32.ofNat (wV m (s.1 * s.2.1) k (S k))))) rfl (by decide) rfl hr rfl (Nat.le_of_ble_eq_true rfl) (s_worthOf12 (by omega) M g gM r sI hk5) (fun r h hq9 => ?_)
    obtain ⟨rfl, rfl⟩ := hq9
    refine g_aload_n (i := 0) rfl rfl ?_
    refine g_virt0 (Qc := fun r h' => h' = h ∧ r = some (.int (Int32.ofNat (ssN m s.2.2)))) rfl (by decide) rfl hr rfl (Nat.le_of_ble_eq_true rfl) (s_shares12 (by omega) M r sI sJ) (fun r h hq9 => ?_)
    obtain ⟨rfl, rfl⟩ := hq9
    have k_1 := ofN_toInt (n := (ssN m s.2.2)) (by omega)
    refine g_imul rfl ?_
    refine g_aload_n (i := 0) rfl rfl ?_
    refine g_getfield (v := .ref 64) rfl hr (by decide) rfl ?_
    refine g_iload (i := 7) rfl rfl ?_
    refine g_iaload (n := 5) (f := m.2.2.2.1) rfl M.2.2.2.1 (i_in (by omega) (by omega)) ?_
    rw [i_nat ek, a4.2.2.1]
    refine g_aload_n (i := 0) rfl rfl ?_
    refine g_iload (i := 7) rfl rfl ?_
    refine g_aload_n (i := 0) rfl rfl ?_
    refine g_virt0 (Qc := fun r h' => h' = h ∧ r = some (.long (stO (fun _ => true) (s.1 * s.2.1)))) rfl (by decide) rfl hr rfl (Nat.le_of_ble_eq_true rfl) (s_all12 (by omega) hr gM) (fun r h hq9 => ?_)
    obtain ⟨rfl, rfl⟩ := hq9
    refine g_virt2 (Qc := fun r h' => h' = h ∧ r = some (.int (Int32.ofNat (wV m (s.1 * s.2.1) k (stO (fun _ => true) (s.1 * s.2.1)))))) rfl (by decide) rfl hr rfl (Nat.le_of_ble_eq_true rfl) (s_worthOf12 (by omega) M g gM r sI hk5) (fun r h hq9 => ?_)
    obtain ⟨rfl, rfl⟩ := hq9
    have k_2 := ofN_toInt (n := (shN m k)) (by omega)
    refine g_imul rfl ?_
    refine g_icmp_lt 314 rfl rfl (fun c_3 => ?_) (fun c_3 => ?_)
    · skip
      rw [i_lt, m1, m2] at c_3
      rw [fst1_y (show fltP m s S 5 k from (by show F5 _ _ _ _ _; unfold F5; omega))]
      refine g_aload_n (i := 0) rfl rfl ?_
      refine g_iload (i := 7) rfl rfl ?_
      refine g_putfield (h1 := h.set 60 (mO (upd m.1 28 (Int32.ofNat k)))) rfl hr (by decide) (Nat.le_of_ble_eq_true rfl) rfl rfl ?_
      refine g_iconst (n := 5) rfl ?_
      refine g_ireturn (ty := .int) rfl rfl rfl ?_
      exact qF_some hr
    · skip
      rw [i_lt, m1, m2] at c_3
      refine g_goto 322 rfl rfl ?_
      refine g_iinc (i := 7) (L1 := [some (.ref 60), some (.long x), none, some (.long (S 5)), none, some (.long (rdS s.1 s.2.1 (m.1 2).toInt ||| besS s.1 (s.1 * s.2.1) (grF s.1 (s.1 * s.2.1) (S 5) ((S 5 &&& rdS s.1 s.2.1 (m.1 2).toInt) &&& S 5)))), none, some (.int ((Int32.ofNat k) + Int32.ofInt 1)), o8, o9]) rfl rfl rfl ?_
      rw [ofN_add (by omega)]
      refine g_goto 264 rfl rfl ?_
      have nf : ¬ fltP m s S 5 k := fun z => by
        have z : F5 m (s.1 * s.2.1) s.2.2 k (S k) := z
        unfold F5 at z
        omega
      rw [fst1_n nf]
      exact ih (k + 1) (by omega)
theorem wV_4 {m : MF} {J2 : Nat → Int32} (hj : J2 4 = m.1 4) (n i : Nat) (x : Int64) : wV ((J2, m.2) : MF) n i x = wV m n i x := by
  have e : oakB ((J2, m.2) : MF) x = oakB m x := by
    unfold oakB
    rw [show ((J2, m.2) : MF).1 4 = m.1 4 from hj]
  unfold wV
  rw [e]
  rfl
theorem ssN_4 {m : MF} {J2 : Nat → Int32} : ∀ k, ssN ((J2, m.2) : MF) k = ssN m k := by
  intro k
  induction k with
  | zero => rfl
  | succ k ih => exact congrArg (fun z => z + shN m k) ih
theorem fltP_J {m : MF} {s : Sg} {S : Nat → Int64} {J2 : Nat → Int32} (hj : ∀ j, j < 7 → J2 j = m.1 j) : fltP ((J2, m.2) : MF) s S = fltP m s S := by
  have e2 : ((J2, m.2) : MF).1 2 = m.1 2 := hj 2 (by decide)
  have e3 : ((J2, m.2) : MF).1 3 = m.1 3 := hj 3 (by decide)
  have e5 : smN ((J2, m.2) : MF) = smN m := by
    unfold smN
    rw [show ((J2, m.2) : MF).1 5 = m.1 5 from hj 5 (by decide)]
  refine funext fun f => funext fun i => ?_
  unfold fltP
  rw [e2, e3, e5]
  have k5 : F5 ((J2, m.2) : MF) (s.1 * s.2.1) s.2.2 i (S i) = F5 m (s.1 * s.2.1) s.2.2 i (S i) := by
    unfold F5
    rw [wV_4 (hj 4 (by decide)), wV_4 (hj 4 (by decide)), ssN_4]
    rfl
  split
  · rfl
  · rfl
  · rfl
  · exact k5
theorem vdA_J {m : MF} {s : Sg} {S : Nat → Int64} {J2 : Nat → Int32} (hj : ∀ j, j < 7 → J2 j = m.1 j) : vdA ((J2, m.2) : MF) s S = vdA m s S := by
  unfold vdA
  rw [fltP_J hj]
theorem RB_J7 {c : CF} {m : MF} {J2 : Nat → Int32} (r : RB c m) (hj : ∀ j, j < 7 → J2 j = m.1 j) : RB c ((J2, m.2) : MF) := RB_ok.1 c m (J2, m.2) r ⟨hj, rfl⟩
theorem s_fn_5 {d : Nat} {h : sHp} {c : CF} {m : MF} {s : Sg} {S : Nat → Int64} (hd : 4 ≤ d) (M : MC h m) (gM : gdM m.1 s.1 s.2.1) (g : gdF c s.1 s.2.1) (r : RB c m) (sI : sgI c s) (sJ : sgJ m.1 s) (P : PT S m.2.2.1 (s.1 * s.2.1)) (h28 : m.1 28 = Int32.ofInt (-1)) : sGo none 227 d 5 [some (.ref 60), none, none, none, none, none, none, none, none, none] [] h (qF h m.1 (vdA m s S)) := by
  have hr := M.1
  have n5 := sI.2.2.2.2.2.2.2
  have hn := gdF_n g
  have RS := (r.2 s sI).1
  have e6 : (m.1 6).toInt = ((s.2.2 : Nat) : Int) := by rw [sJ.2.2.1]; exact ofN_toInt (by omega)
  have RP := RP_k r sI
  unfold vdA
  refine g_aload_n (i := 0) rfl rfl ?_
  refine g_iconst (n := (-1)) rfl ?_
  refine g_virt1 (Qc := fun r h' => h' = h ∧ r = some (.long (S 6))) rfl (by decide) rfl hr rfl (Nat.le_of_ble_eq_true rfl) (s_pc12 (k := 6) (by omega) M gM P (by decide) (by decide)) (fun r h hq9 => ?_)
  obtain ⟨rfl, rfl⟩ := hq9
  refine g_lstore_n (i := 1) (L1 := [some (.ref 60), some (.long (S 6)), none, none, none, none, none, none, none, none]) rfl (Nat.le_of_ble_eq_true rfl) rfl ?_
  refine g_lload_n (i := 1) rfl rfl ?_
  refine g_lconst (n := 0) rfl ?_
  show sGo none 227 _ 13 [some (.ref 60), some (.long (S 6)), none, none, none, none, none, none, none, none] [.long (Int64.ofNat 0), .long (S 6)] _ _
  refine g_lcmp rfl ?_
  refine g_if_eq 49 rfl rfl (fun c_1 => ?_) (fun c_1 => ?_)
  · skip
    rw [lc_eq] at c_1
    refine g_iconst (n := 0) rfl ?_
    refine g_istore_n (i := 3) (L1 := [some (.ref 60), some (.long (S 6)), none, some (.int (Int32.ofInt 0)), none, none, none, none, none, none]) rfl (Nat.le_of_ble_eq_true rfl) rfl ?_
    rw [if_pos c_1]
    refine s_fn2 (d := d) (R := vdG (fltP m s S) s.2.2 3 3) hd M gM g r sI sJ P (fun o3 o4 o5 => ?_) s.2.2 0 _ _ (Nat.zero_add _)
    have ac : rdS s.1 s.2.1 (m.1 2).toInt &&& S 5 = S 5 &&& rdS s.1 s.2.1 (m.1 2).toInt := bt_ext (fun q _ => by rw [bt_and, bt_and, Bool.and_comm])
    refine g_aload_n (i := 0) rfl rfl ?_
    refine g_bipush (n := 9) rfl ?_
    refine g_virt1 (Qc := fun r h' => h' = h ∧ r = some (.long (S 5))) rfl (by decide) rfl hr rfl (Nat.le_of_ble_eq_true rfl) (s_pc12 (k := 5) (by omega) M gM P (by decide) (by decide)) (fun r h hq9 => ?_)
    obtain ⟨rfl, rfl⟩ := hq9
    refine g_lstore_n (i := 3) (L1 := [some (.ref 60), some (.long (S 6)), none, some (.long (S 5)), none, o5, none, none, none, none]) rfl (Nat.le_of_ble_eq_true rfl) rfl ?_
    refine g_aload_n (i := 0) rfl rfl ?_
    refine g_virt0 (Qc := fun r h' => h' = h ∧ r = some (.long (rdS s.1 s.2.1 (m.1 2).toInt))) rfl (by decide) rfl hr rfl (Nat.le_of_ble_eq_true rfl) (s_road12 (by omega) M gM) (fun r h hq9 => ?_)
    obtain ⟨rfl, rfl⟩ := hq9
    refine g_aload_n (i := 0) rfl rfl ?_
    refine g_aload_n (i := 0) rfl rfl ?_
    refine g_aload_n (i := 0) rfl rfl ?_
    refine g_virt0 (Qc := fun r h' => h' = h ∧ r = some (.long (rdS s.1 s.2.1 (m.1 2).toInt))) rfl (by decide) rfl hr rfl (Nat.le_of_ble_eq_true rfl) (s_road12 (by omega) M gM) (fun r h hq9 => ?_)
    obtain ⟨rfl, rfl⟩ := hq9
    refine g_lload_n (i := 3) rfl rfl ?_
    refine g_land rfl ?_
    refine g_lload_n (i := 3) rfl rfl ?_
    rw [ac]
    refine g_virt2 (Qc := fun r h' => h' = h ∧ r = some (.long (grF s.1 (s.1 * s.2.1) (S 5) ((S 5 &&& rdS s.1 s.2.1 (m.1 2).toInt) &&& S 5)))) rfl (by decide) rfl hr rfl (Nat.le_of_ble_eq_true rfl) (s_grown12 (q0 := S 5 &&& rdS s.1 s.2.1 (m.1 2).toInt) (by omega) hr gM) (fun r h hq9 => ?_)
    obtain ⟨rfl, rfl⟩ := hq9
    refine g_virt1 (Qc := fun r h' => h' = h ∧ r = some (.long (besS s.1 (s.1 * s.2.1) (grF s.1 (s.1 * s.2.1) (S 5) ((S 5 &&& rdS s.1 s.2.1 (m.1 2).toInt) &&& S 5))))) rfl (by decide) rfl hr rfl (Nat.le_of_ble_eq_true rfl) (s_beside12 (by omega) hr gM) (fun r h hq9 => ?_)
    obtain ⟨rfl, rfl⟩ := hq9
    refine g_lor rfl ?_
    refine g_lstore (i := 5) (L1 := [some (.ref 60), some (.long (S 6)), none, some (.long (S 5)), none, some (.long ((rdS s.1 s.2.1 (m.1 2).toInt) ||| (besS s.1 (s.1 * s.2.1) (grF s.1 (s.1 * s.2.1) (S 5) ((S 5 &&& rdS s.1 s.2.1 (m.1 2).toInt) &&& S 5))))), none, none, none, none]) rfl (Nat.le_of_ble_eq_true rfl) rfl ?_
    refine g_iconst (n := 0) rfl ?_
    refine g_istore (i := 7) (L1 := [some (.ref 60), some (.long (S 6)), none, some (.long (S 5)), none, some (.long ((rdS s.1 s.2.1 (m.1 2).toInt) ||| (besS s.1 (s.1 * s.2.1) (grF s.1 (s.1 * s.2.1) (S 5) ((S 5 &&& rdS s.1 s.2.1 (m.1 2).toInt) &&& S 5))))), none, some (.int (Int32.ofInt 0)), none, none]) rfl (Nat.le_of_ble_eq_true rfl) rfl ?_
    refine s_fn3 (d := d) (R := vdG (fltP m s S) s.2.2 2 4) hd M gM g r sI sJ P (fun o7 => ?_) s.2.2 0 (Nat.zero_add _)
    have no4 : (∀ k, ¬ fltP m s S 4 k) → vdG (fltP m s S) s.2.2 2 4 = vdT (fst1 (fltP m s S 5) s.2.2 0) 5 none := fun z => by
      show vdT (fst1 (fltP m s S 4) s.2.2 0) 4 _ = _
      rw [fst1_no z]
      rfl
    rcases RP.2.1 with hw | ⟨w, hwn, hw⟩
    · rw [no4 (fun k z => by
        obtain ⟨k2, h2, e2, -⟩ := z
        rw [hw] at e2
        have e3 := congrArg Int32.toInt e2
        rw [ofN_toInt (by omega)] at e3
        have e1 : (-1 : Int32).toInt = -1 := rfl
        omega)]
      refine g_aload_n (i := 0) rfl rfl ?_
      refine g_getfield (v := .int (m.1 3)) rfl hr (by decide) rfl ?_
      refine g_iconst (n := (-1)) rfl ?_
      refine g_icmp_eq 261 rfl rfl (fun _ => ?_) (fun hc => absurd hc (by exact fun z => z hw))
      refine g_iconst (n := 0) rfl ?_
      refine g_istore (i := 7) (L1 := [some (.ref 60), some (.long (S 6)), none, some (.long (S 5)), none, some (.long (rdS s.1 s.2.1 (m.1 2).toInt ||| besS s.1 (s.1 * s.2.1) (grF s.1 (s.1 * s.2.1) (S 5) ((S 5 &&& rdS s.1 s.2.1 (m.1 2).toInt) &&& S 5)))), none, some (.int (Int32.ofInt 0)), none, none]) rfl (Nat.le_of_ble_eq_true rfl) rfl ?_
      exact s_fn5 (d := d) hd M gM g r sI sJ P h28 s.2.2 0 (Nat.zero_add _)
    · have ew : (m.1 3).toInt = ((w : Nat) : Int) := by rw [hw]; exact ofN_toInt (by omega)
      have lw : S 5 &&& (Int64.ofNat 1 <<< ((Int32.ofNat w).toInt64 &&& 63)) = Int64.ofNat 0 ↔ ¬ m.2.2.1 w = (Int8.ofInt 9).toInt32 := by
        have b5 := PT_bt hn.1 P (k := 5) (by decide) hwn
        constructor
        · intro z y
          have z2 := bt_eq0.mp z w (by omega)
          rw [bt_and, bt_one (by omega), decide_eq_true rfl, Bool.and_true, b5] at z2
          exact of_decide_eq_false z2 y
        · intro z
          refine bt_eq0.mpr (fun q hq => ?_)
          rw [bt_and, bt_one (by omega)]
          by_cases e : q = w
          · subst e; rw [b5, decide_eq_false (show ¬ m.2.2.1 q = cdS 5 from z)]; rfl
          · rw [decide_eq_false e, Bool.and_false]
      refine g_aload_n (i := 0) rfl rfl ?_
      refine g_getfield (v := .int (m.1 3)) rfl hr (by decide) rfl ?_
      refine g_iconst (n := (-1)) rfl ?_
      refine g_icmp_eq 261 rfl rfl (fun hc => absurd hc (by intro z; have z := congrArg Int32.toInt z; rw [ew] at z; have e1 : (Int32.ofInt (-1)).toInt = -1 := rfl; omega)) (fun _ => ?_)
      refine g_aload_n (i := 0) rfl rfl ?_
      refine g_getfield (v := .ref 63) rfl hr (by decide) rfl ?_
      refine g_aload_n (i := 0) rfl rfl ?_
      refine g_getfield (v := .int (m.1 3)) rfl hr (by decide) rfl ?_
      refine g_iaload (n := 64) (f := m.2.2.1) rfl M.2.2.1 (i_in (by omega) (by omega)) ?_
      rw [i_nat ew]
      refine g_bipush (n := 9) rfl ?_
      refine g_icmp_eq 261 rfl rfl (fun c_1 => ?_) (fun c_1 => ?_)
      · skip
        rw [no4 (fun k z => by
          obtain ⟨k2, h2, e2, z1, -⟩ := z
          obtain rfl : k2 = w := ofN_inj (by omega) (by omega) (e2.symm.trans hw)
          exact lw.mp z1 c_1)]
        refine g_iconst (n := 0) rfl ?_
        refine g_istore (i := 7) (L1 := [some (.ref 60), some (.long (S 6)), none, some (.long (S 5)), none, some (.long (rdS s.1 s.2.1 (m.1 2).toInt ||| besS s.1 (s.1 * s.2.1) (grF s.1 (s.1 * s.2.1) (S 5) ((S 5 &&& rdS s.1 s.2.1 (m.1 2).toInt) &&& S 5)))), none, some (.int (Int32.ofInt 0)), none, none]) rfl (Nat.le_of_ble_eq_true rfl) rfl ?_
        exact s_fn5 (d := d) hd M gM g r sI sJ P h28 s.2.2 0 (Nat.zero_add _)
      · skip
        refine g_aload_n (i := 0) rfl rfl ?_
        refine g_lconst (n := 1) rfl ?_
        show sGo none 227 _ 201 [some (.ref 60), some (.long (S 6)), none, some (.long (S 5)), none, some (.long (rdS s.1 s.2.1 (m.1 2).toInt ||| besS s.1 (s.1 * s.2.1) (grF s.1 (s.1 * s.2.1) (S 5) ((S 5 &&& rdS s.1 s.2.1 (m.1 2).toInt) &&& S 5)))), none, o7, none, none] [.long (Int64.ofNat 1), .ref 60] _ _
        refine g_aload_n (i := 0) rfl rfl ?_
        refine g_getfield (v := .int (m.1 3)) rfl hr (by decide) rfl ?_
        refine g_lshl rfl ?_
        rw [hw]
        refine g_virt1 (Qc := fun r h' => h' = h ∧ r = some (.long (besS s.1 (s.1 * s.2.1) (Int64.ofNat 1 <<< ((Int32.ofNat w).toInt64 &&& 63))))) rfl (by decide) rfl hr rfl (Nat.le_of_ble_eq_true rfl) (s_beside12 (by omega) hr gM) (fun r h hq9 => ?_)
        obtain ⟨rfl, rfl⟩ := hq9
        refine g_lconst (n := 1) rfl ?_
        show sGo none 227 _ 210 [some (.ref 60), some (.long (S 6)), none, some (.long (S 5)), none, some (.long (rdS s.1 s.2.1 (m.1 2).toInt ||| besS s.1 (s.1 * s.2.1) (grF s.1 (s.1 * s.2.1) (S 5) ((S 5 &&& rdS s.1 s.2.1 (m.1 2).toInt) &&& S 5)))), none, o7, none, none] [.long (Int64.ofNat 1), .long (besS s.1 (s.1 * s.2.1) (Int64.ofNat 1 <<< ((Int32.ofNat w).toInt64 &&& 63)))] _ _
        refine g_aload_n (i := 0) rfl rfl ?_
        refine g_getfield (v := .int (m.1 3)) rfl hr (by decide) rfl ?_
        rw [hw]
        refine g_lshl rfl ?_
        refine g_lor rfl ?_
        refine g_lstore (i := 7) (L1 := [some (.ref 60), some (.long (S 6)), none, some (.long (S 5)), none, some (.long (rdS s.1 s.2.1 (m.1 2).toInt ||| besS s.1 (s.1 * s.2.1) (grF s.1 (s.1 * s.2.1) (S 5) ((S 5 &&& rdS s.1 s.2.1 (m.1 2).toInt) &&& S 5)))), none, some (.long ((besS s.1 (s.1 * s.2.1) (Int64.ofNat 1 <<< ((Int32.ofNat w).toInt64 &&& 63))) ||| ((Int64.ofNat 1) <<< ((Int32.ofNat w).toInt64 &&& 63)))), none, none]) rfl (Nat.le_of_ble_eq_true rfl) rfl ?_
        refine g_iconst (n := 0) rfl ?_
        refine g_istore (i := 9) (L1 := [some (.ref 60), some (.long (S 6)), none, some (.long (S 5)), none, some (.long (rdS s.1 s.2.1 (m.1 2).toInt ||| besS s.1 (s.1 * s.2.1) (grF s.1 (s.1 * s.2.1) (S 5) ((S 5 &&& rdS s.1 s.2.1 (m.1 2).toInt) &&& S 5)))), none, some (.long ((besS s.1 (s.1 * s.2.1) (Int64.ofNat 1 <<< ((Int32.ofNat w).toInt64 &&& 63))) ||| ((Int64.ofNat 1) <<< ((Int32.ofNat w).toInt64 &&& 63)))), none, some (.int (Int32.ofInt 0))]) rfl (Nat.le_of_ble_eq_true rfl) rfl ?_
        refine s_fn4 (d := d) (R := vdT (fst1 (fltP m s S 5) s.2.2 0) 5 none) hd M gM g r sI sJ P hw hwn (lw.mpr c_1) (fun o7 o8 o9 => ?_) s.2.2 0 (Nat.zero_add _)
        refine g_iconst (n := 0) rfl ?_
        refine g_istore (i := 7) (L1 := [some (.ref 60), some (.long (S 6)), none, some (.long (S 5)), none, some (.long (rdS s.1 s.2.1 (m.1 2).toInt ||| besS s.1 (s.1 * s.2.1) (grF s.1 (s.1 * s.2.1) (S 5) ((S 5 &&& rdS s.1 s.2.1 (m.1 2).toInt) &&& S 5)))), none, some (.int (Int32.ofInt 0)), o8, o9]) rfl (Nat.le_of_ble_eq_true rfl) rfl ?_
        exact s_fn5 (d := d) hd M gM g r sI sJ P h28 s.2.2 0 (Nat.zero_add _)
  · skip
    rw [lc_eq] at c_1
    refine g_aload_n (i := 0) rfl rfl ?_
    refine g_iconst (n := 0) rfl ?_
    rw [if_neg c_1]
    refine g_putfield (h1 := h.set 60 (mO (upd m.1 28 (Int32.ofInt 0)))) rfl hr (by decide) (Nat.le_of_ble_eq_true rfl) rfl rfl ?_
    obtain ⟨j, hj, h1, hl⟩ := low_of c_1
    rw [lowB_of hj h1 hl]
    exact s_fn_22 (h0 := h) (J0 := m.1) (by omega) hj h1 hl j 0 _ _ (Nat.zero_add _) (s_set_eq hr) (fun i hi => u_ne hi) u_at (e60_set e60_rfl)
theorem s_fnow {d : Nat} {h : sHp} {c : CF} {m : MF} {s : Sg} {S : Nat → Int64} (hd : 5 ≤ d) (M : MC h m) (gM : gdM m.1 s.1 s.2.1) (g : gdF c s.1 s.2.1) (r : RB c m) (sI : sgI c s) (sJ : sgJ m.1 s) (P : PT S m.2.2.1 (s.1 * s.2.1)) : sDo d 227 [.ref 60] h (qF h m.1 (vdA m s S)) := by
  refine sDo_of1 (nL := 10) (L := [some (.ref 60), none, none, none, none, none, none, none, none, none]) (by omega) rfl rfl ?_
  refine g_aload_n (i := 0) rfl rfl ?_
  refine g_iconst (n := (-1)) rfl ?_
  refine g_putfield (h1 := h.set 60 (mO (upd m.1 28 (Int32.ofInt (-1))))) rfl M.1 (by decide) (Nat.le_of_ble_eq_true rfl) rfl rfl ?_
  have hj : ∀ j, j < 7 → upd m.1 28 (Int32.ofInt (-1)) j = m.1 j := fun j hj => u_ne (by omega)
  have M1 : MC (h.set 60 (mO (upd m.1 28 (Int32.ofInt (-1))))) ((upd m.1 28 (Int32.ofInt (-1)), m.2) : MF) := MC_0 M
  rw [← vdA_J hj]
  refine sGo_mono (s_fn_5 (d := d - 1) (by omega) M1 ⟨(hj 0 (by decide)).trans gM.1, (hj 1 (by decide)).trans gM.2.1, gM.2.2⟩ g (RB_J7 r hj) sI ⟨(hj 0 (by decide)).trans sJ.1, (hj 1 (by decide)).trans sJ.2.1, (hj 6 (by decide)).trans sJ.2.2.1, sJ.2.2.2⟩ P (show upd m.1 28 (Int32.ofInt (-1)) 28 = Int32.ofInt (-1) from u_at)) (fun r h' q => ?_)
  obtain ⟨J', q1, q2, q3, q4, q5⟩ := q
  exact ⟨J', q1, fun j hj => (q2 j hj).trans (u_ne hj), q3, ⟨q4.1.trans List.length_set, fun q hq => (q4.2 q hq).trans (s_set_ne (Ne.symm hq))⟩, q5⟩
