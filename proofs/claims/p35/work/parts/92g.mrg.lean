section
/-! ===== the reference's cuts, one after another ===== -/
def rcP (h : sHp) (L : List Nat) (J0 : Nat → Int32) : Prop := ∃ (J fc : Nat → Int32), h[60]? = some (mO J) ∧ (∀ j, j ≠ 31 → J j = J0 j) ∧ J 31 = Int32.ofNat L.length ∧ h[76]? = some (.inl (0, 1000, .inl fc)) ∧ ∀ i c, L[i]? = some c → fc i = Int32.ofNat c
def rsE (h h' : sHp) : Prop := h'.length = h.length ∧ ∀ q, q ≠ 60 → q ≠ 76 → h'[q]? = h[q]?
theorem rsE_rfl {h : sHp} : rsE h h := ⟨rfl, fun _ _ _ => rfl⟩
theorem rsE_tr {a b c : sHp} (x : rsE a b) (y : rsE b c) : rsE a c := ⟨y.1.trans x.1, fun q h1 h2 => (y.2 q h1 h2).trans (x.2 q h1 h2)⟩
theorem s_lists1 {d : Nat} {h : sHp} {L : List Nat} {J0 : Nat → Int32} {x : Int32} {C : Nat} (b : Bool) (hd : 1 ≤ d) (P : rcP h L J0) (hl : L.length < 999) (hx : x = Int32.ofNat C) : sDo d 231 [.ref 60, .int x, .int (if b = true then 1 else 0)] h (fun r h' => r = none ∧ rcP h' (L ++ (if b = true then [C] else [])) J0 ∧ rsE h h') := by
  obtain ⟨J, fc, hr, b0, b6, h76, p1⟩ := id P
  have e6 : (J 31).toInt = ((L.length : Nat) : Int) := by rw [b6]; exact ofN_toInt (by omega)
  cases b
  · rw [if_neg (by decide), if_neg (by decide), List.append_nil]
    refine sDo_of1 (nL := 3) (L := [some (.ref 60), some (.int x), some (.int 0)]) hd rfl rfl ?_
    refine g_iload_n (i := 2) rfl rfl ?_
    refine g_if_eq 21 rfl rfl (fun _ => ?_) (fun hc => absurd hc (by decide))
    refine g_return rfl rfl ?_
    exact ⟨rfl, P, rsE_rfl⟩
  · rw [if_pos rfl, if_pos rfl]
    refine sDo_of1 (nL := 3) (L := [some (.ref 60), some (.int x), some (.int 1)]) hd rfl rfl ?_
    refine g_iload_n (i := 2) rfl rfl ?_
    refine g_if_eq 21 rfl rfl (fun hc => absurd hc (by decide)) (fun _ => ?_)
    refine g_aload_n (i := 0) rfl rfl ?_
    refine g_getfield (v := .ref 76) rfl hr (by decide) rfl ?_
    refine g_aload_n (i := 0) rfl rfl ?_
    refine g_dup rfl rfl ?_
    refine g_getfield (v := .int (J 31)) rfl hr (by decide) rfl ?_
    refine g_dup_x1 rfl rfl rfl ?_
    refine g_iconst (n := 1) rfl ?_
    have k_1 : (Int32.ofInt 1).toInt = 1 := rfl
    refine g_iadd rfl ?_
    have t_2 : ((J 31) + (Int32.ofInt 1)).toInt = ((L.length + 1 : Nat) : Int) := by rw [i_add (by rw [e6, k_1]; omega) (by rw [e6, k_1]; omega), e6, k_1]; omega
    refine g_putfield (h1 := h.set 60 (mO (upd J 31 (J 31 + Int32.ofInt 1)))) rfl hr (by decide) (Nat.le_of_ble_eq_true rfl) rfl rfl ?_
    refine g_iload_n (i := 1) rfl rfl ?_
    refine g_iastore (n := 1000) (f := fc) (h1 := (h.set 60 (mO (upd J 31 (J 31 + Int32.ofInt 1)))).set 76 (.inl (0, 1000, .inl (upd fc L.length x)))) rfl (by rw [s_set_ne (by decide)]; exact h76) (i_in (by omega) (by omega)) (by rw [i_nat e6]) ?_
    refine g_return rfl rfl ?_
    refine ⟨rfl, ⟨upd J 31 (J 31 + Int32.ofInt 1), upd fc L.length x, by rw [s_set_ne (by decide)]; exact s_set_eq hr, fun j hj => (u_ne hj).trans (b0 j hj), ?_, s_set_eq (by rw [s_set_ne (by decide)]; exact h76), fun i c hi => ?_⟩, ⟨by rw [List.length_set, List.length_set], fun q h1 h2 => by rw [s_set_ne (Ne.symm h2), s_set_ne (Ne.symm h1)]⟩⟩
    · rw [u_at, b6, ofN_add (by omega), List.length_append]; rfl
    · rcases app_at hi with ⟨h1, h2⟩ | ⟨rfl, rfl⟩
      · rw [u_ne (by omega)]; exact p1 i c h2
      · rw [u_at]; exact hx
theorem bif_len {b : Bool} {L : List Nat} : (if b = true then L else []).length ≤ L.length := by
  cases b
  · exact Nat.zero_le _
  · exact Nat.le_refl _
theorem bif_app {b : Bool} {A B : List Nat} : (if b = true then A else []) ++ (if b = true then B else []) = if b = true then A ++ B else [] := by
  cases b <;> rfl
theorem s_lm_str {d : Nat} {h0 : sHp} {W H : Nat} {J0 : Nat → Int32} {kd : Int32} {Q : Option Value → sHp → Prop} (hd : 2 ≤ d) (g : gdM J0 W H) {o3 o4 : Option Value} (hk : ¬ (kd &&& Int32.ofInt 2 = 0)) : ∀ (f v : Nat) (h : sHp) (L : List Nat), v + f = W → 1 ≤ v → L.length + (strT f v).length ≤ 644 → rsE h0 h → rcP h L J0 → (∀ (h' : sHp), rsE h0 h' → rcP h' (L ++ strT f v) J0 → sGo none 232 d 44 [some (.ref 60), some (.int kd), some (.int (Int32.ofNat W)), o3, o4] [] h' Q) → sGo none 232 d 7 [some (.ref 60), some (.int kd), some (.int (Int32.ofNat v)), o3, o4] [] h Q := by
  obtain ⟨gw, gh, w2, w8, h2, h8⟩ := id g
  have hw0 : (J0 0).toInt = ((W : Nat) : Int) := by rw [gw]; exact ofN_toInt (by omega)
  have hw1 : (J0 1).toInt = ((H : Nat) : Int) := by rw [gh]; exact ofN_toInt (by omega)
  intro f
  induction f with
  | zero =>
    intro v h L hv hv1 hl E P hQ
    have ek := ofN_toInt (n := v) (by omega)
    obtain ⟨J, fc, hr, b0, b6, h76, -⟩ := id P
    have j0 : (J 0).toInt = ((W : Nat) : Int) := by rw [b0 0 (by decide)]; exact hw0
    have j1 : (J 1).toInt = ((H : Nat) : Int) := by rw [b0 1 (by decide)]; exact hw1
    refine g_iload_n (i := 2) rfl rfl ?_
    refine g_aload_n (i := 0) rfl rfl ?_
    refine g_getfield (v := .int (J 0)) rfl hr (by decide) rfl ?_
    refine g_icmp_ge 44 rfl rfl (fun _ => ?_) (fun hc => absurd hc (by rw [i_le, j0, ek]; omega))
    have key := hQ h E (by rw [show strT 0 v = [] from rfl, List.append_nil]; exact P)
    rw [show v = W by omega]
    exact key
  | succ f ih =>
    intro v h L hv hv1 hl E P hQ
    have ek := ofN_toInt (n := v) (by omega)
    obtain ⟨J, fc, hr, b0, b6, h76, -⟩ := id P
    have j0 : (J 0).toInt = ((W : Nat) : Int) := by rw [b0 0 (by decide)]; exact hw0
    have j1 : (J 1).toInt = ((H : Nat) : Int) := by rw [b0 1 (by decide)]; exact hw1
    rw [show strT (f + 1) v = (1000 + 100 * v) :: strT f (v + 1) from rfl] at hl hQ
    have hl5 := hl
    rw [List.length_cons] at hl5
    refine g_iload_n (i := 2) rfl rfl ?_
    refine g_aload_n (i := 0) rfl rfl ?_
    refine g_getfield (v := .int (J 0)) rfl hr (by decide) rfl ?_
    refine g_icmp_ge 44 rfl rfl (fun hc => absurd hc (by rw [i_le, j0, ek]; omega)) (fun _ => ?_)
    refine g_aload_n (i := 0) rfl rfl ?_
    refine g_sipush (n := 1000) rfl ?_
    refine g_bipush (n := 100) rfl ?_
    refine g_iload_n (i := 2) rfl rfl ?_
    have k_1 : ((Int8.ofInt 100).toInt32).toInt = 100 := rfl
    refine g_imul rfl ?_
    have t_2 : (((Int8.ofInt 100).toInt32 * (Int32.ofNat v))).toInt = ((100 * v : Nat) : Int) := n_mul (X := 100) (Y := v) (show _ = ((100 : Nat) : Int) from k_1) (show _ = ((v : Nat) : Int) from ek) (by omega)
    have k_3 : ((Int16.ofInt 1000).toInt32).toInt = 1000 := rfl
    refine g_iadd rfl ?_
    have t_4 : ((Int16.ofInt 1000).toInt32 + ((Int8.ofInt 100).toInt32 * (Int32.ofNat v))).toInt = ((1000 + 100 * v : Nat) : Int) := by rw [i_add (by rw [k_3, t_2]; omega) (by rw [k_3, t_2]; omega), k_3, t_2]; omega
    refine g_iload_n (i := 1) rfl rfl ?_
    refine g_iconst (n := 2) rfl ?_
    refine g_iand rfl ?_
    refine g_if_eq 34 rfl rfl (fun hc => absurd hc (by exact hk)) (fun _ => ?_)
    refine g_iconst (n := 1) rfl ?_
    refine g_goto 35 rfl rfl ?_
    have hadd := s_lists1 (d := d) (C := 1000 + 100 * v) (x := ((Int16.ofInt 1000).toInt32 + ((Int8.ofInt 100).toInt32 * (Int32.ofNat v)))) true (by omega) P (by omega) (of_b (show (((Int16.ofInt 1000).toInt32 + ((Int8.ofInt 100).toInt32 * (Int32.ofNat v)))).toInt = ((1000 + 100 * v : Nat) : Int) by rw [t_4] <;> omega) (by omega))
    refine g_virt2 (Qc := fun r h' => r = none ∧ rcP h' (L ++ [1000 + 100 * v]) J0 ∧ rsE h h') rfl (by decide) rfl hr rfl (Nat.le_of_ble_eq_true rfl) (hadd) (fun r h9 hq9 => ?_)
    obtain ⟨rfl, P1, E1⟩ := hq9
    refine g_iinc (i := 2) (L1 := [some (.ref 60), some (.int kd), some (.int ((Int32.ofNat v) + Int32.ofInt 1)), o3, o4]) rfl rfl rfl ?_
    rw [ofN_add (by omega)]
    refine g_goto 7 rfl rfl ?_
    exact ih (v + 1) h9 (L ++ [1000 + 100 * v]) (by omega) (by omega) (by rw [List.length_append]; rw [List.length_cons] at hl; show L.length + 1 + _ ≤ 644; omega) (rsE_tr E E1) P1 (fun h' e p => hQ h' e (by rw [List.append_assoc] at p; exact p))
theorem s_lm_al {d : Nat} {h0 : sHp} {W H : Nat} {J0 : Nat → Int32} {kd : Int32} {Q : Option Value → sHp → Prop} (hd : 2 ≤ d) (g : gdM J0 W H) {o3 o4 : Option Value} (hk : ¬ (kd &&& (Int8.ofInt 16).toInt32 = 0)) : ∀ (f v : Nat) (h : sHp) (L : List Nat), v + f = H → 1 ≤ v → L.length + (alT f v).length ≤ 644 → rsE h0 h → rcP h L J0 → (∀ (h' : sHp), rsE h0 h' → rcP h' (L ++ alT f v) J0 → sGo none 232 d 165 [some (.ref 60), some (.int kd), some (.int (Int32.ofNat H)), o3, o4] [] h' Q) → sGo none 232 d 127 [some (.ref 60), some (.int kd), some (.int (Int32.ofNat v)), o3, o4] [] h Q := by
  obtain ⟨gw, gh, w2, w8, h2, h8⟩ := id g
  have hw0 : (J0 0).toInt = ((W : Nat) : Int) := by rw [gw]; exact ofN_toInt (by omega)
  have hw1 : (J0 1).toInt = ((H : Nat) : Int) := by rw [gh]; exact ofN_toInt (by omega)
  intro f
  induction f with
  | zero =>
    intro v h L hv hv1 hl E P hQ
    have ek := ofN_toInt (n := v) (by omega)
    obtain ⟨J, fc, hr, b0, b6, h76, -⟩ := id P
    have j0 : (J 0).toInt = ((W : Nat) : Int) := by rw [b0 0 (by decide)]; exact hw0
    have j1 : (J 1).toInt = ((H : Nat) : Int) := by rw [b0 1 (by decide)]; exact hw1
    refine g_iload_n (i := 2) rfl rfl ?_
    refine g_aload_n (i := 0) rfl rfl ?_
    refine g_getfield (v := .int (J 1)) rfl hr (by decide) rfl ?_
    refine g_icmp_ge 165 rfl rfl (fun _ => ?_) (fun hc => absurd hc (by rw [i_le, j1, ek]; omega))
    have key := hQ h E (by rw [show alT 0 v = [] from rfl, List.append_nil]; exact P)
    rw [show v = H by omega]
    exact key
  | succ f ih =>
    intro v h L hv hv1 hl E P hQ
    have ek := ofN_toInt (n := v) (by omega)
    obtain ⟨J, fc, hr, b0, b6, h76, -⟩ := id P
    have j0 : (J 0).toInt = ((W : Nat) : Int) := by rw [b0 0 (by decide)]; exact hw0
    have j1 : (J 1).toInt = ((H : Nat) : Int) := by rw [b0 1 (by decide)]; exact hw1
    rw [show alT (f + 1) v = (4000 + 100 * v) :: alT f (v + 1) from rfl] at hl hQ
    have hl5 := hl
    rw [List.length_cons] at hl5
    refine g_iload_n (i := 2) rfl rfl ?_
    refine g_aload_n (i := 0) rfl rfl ?_
    refine g_getfield (v := .int (J 1)) rfl hr (by decide) rfl ?_
    refine g_icmp_ge 165 rfl rfl (fun hc => absurd hc (by rw [i_le, j1, ek]; omega)) (fun _ => ?_)
    refine g_aload_n (i := 0) rfl rfl ?_
    refine g_sipush (n := 4000) rfl ?_
    refine g_bipush (n := 100) rfl ?_
    refine g_iload_n (i := 2) rfl rfl ?_
    have k_1 : ((Int8.ofInt 100).toInt32).toInt = 100 := rfl
    refine g_imul rfl ?_
    have t_2 : (((Int8.ofInt 100).toInt32 * (Int32.ofNat v))).toInt = ((100 * v : Nat) : Int) := n_mul (X := 100) (Y := v) (show _ = ((100 : Nat) : Int) from k_1) (show _ = ((v : Nat) : Int) from ek) (by omega)
    have k_3 : ((Int16.ofInt 4000).toInt32).toInt = 4000 := rfl
    refine g_iadd rfl ?_
    have t_4 : ((Int16.ofInt 4000).toInt32 + ((Int8.ofInt 100).toInt32 * (Int32.ofNat v))).toInt = ((4000 + 100 * v : Nat) : Int) := by rw [i_add (by rw [k_3, t_2]; omega) (by rw [k_3, t_2]; omega), k_3, t_2]; omega
    refine g_iload_n (i := 1) rfl rfl ?_
    refine g_bipush (n := 16) rfl ?_
    refine g_iand rfl ?_
    refine g_if_eq 155 rfl rfl (fun hc => absurd hc (by exact hk)) (fun _ => ?_)
    refine g_iconst (n := 1) rfl ?_
    refine g_goto 156 rfl rfl ?_
    have hadd := s_lists1 (d := d) (C := 4000 + 100 * v) (x := ((Int16.ofInt 4000).toInt32 + ((Int8.ofInt 100).toInt32 * (Int32.ofNat v)))) true (by omega) P (by omega) (of_b (show (((Int16.ofInt 4000).toInt32 + ((Int8.ofInt 100).toInt32 * (Int32.ofNat v)))).toInt = ((4000 + 100 * v : Nat) : Int) by rw [t_4] <;> omega) (by omega))
    refine g_virt2 (Qc := fun r h' => r = none ∧ rcP h' (L ++ [4000 + 100 * v]) J0 ∧ rsE h h') rfl (by decide) rfl hr rfl (Nat.le_of_ble_eq_true rfl) (hadd) (fun r h9 hq9 => ?_)
    obtain ⟨rfl, P1, E1⟩ := hq9
    refine g_iinc (i := 2) (L1 := [some (.ref 60), some (.int kd), some (.int ((Int32.ofNat v) + Int32.ofInt 1)), o3, o4]) rfl rfl rfl ?_
    rw [ofN_add (by omega)]
    refine g_goto 127 rfl rfl ?_
    exact ih (v + 1) h9 (L ++ [4000 + 100 * v]) (by omega) (by omega) (by rw [List.length_append]; rw [List.length_cons] at hl; show L.length + 1 + _ ≤ 644; omega) (rsE_tr E E1) P1 (fun h' e p => hQ h' e (by rw [List.append_assoc] at p; exact p))
theorem s_lm_bn3 {d : Nat} {h0 : sHp} {W H : Nat} {J0 : Nat → Int32} {kd : Int32} {Q : Option Value → sHp → Prop} (hd : 2 ≤ d) (g : gdM J0 W H) {a b : Nat} (ha : a ≤ 8) (hb : b ≤ 8) {b4 : Bool} (hk : b4 = true ↔ ¬ (kd &&& Int32.ofInt 4 = 0)) : ∀ (f v : Nat) (h : sHp) (L : List Nat), v + f = W + 1 → True → L.length + (bnT3 f v a b).length ≤ 644 → rsE h0 h → rcP h L J0 → (∀ (h' : sHp), rsE h0 h' → rcP h' (L ++ (if b4 = true then bnT3 f v a b else [])) J0 → sGo none 232 d 113 [some (.ref 60), some (.int kd), some (.int (Int32.ofNat a)), some (.int (Int32.ofNat b)), some (.int (Int32.ofNat (W + 1)))] [] h' Q) → sGo none 232 d 67 [some (.ref 60), some (.int kd), some (.int (Int32.ofNat a)), some (.int (Int32.ofNat b)), some (.int (Int32.ofNat v))] [] h Q := by
  obtain ⟨gw, gh, w2, w8, h2, h8⟩ := id g
  have hw0 : (J0 0).toInt = ((W : Nat) : Int) := by rw [gw]; exact ofN_toInt (by omega)
  have hw1 : (J0 1).toInt = ((H : Nat) : Int) := by rw [gh]; exact ofN_toInt (by omega)
  intro f
  induction f with
  | zero =>
    intro v h L hv hv1 hl E P hQ
    have ek := ofN_toInt (n := v) (by omega)
    obtain ⟨J, fc, hr, b0, b6, h76, -⟩ := id P
    have j0 : (J 0).toInt = ((W : Nat) : Int) := by rw [b0 0 (by decide)]; exact hw0
    have j1 : (J 1).toInt = ((H : Nat) : Int) := by rw [b0 1 (by decide)]; exact hw1
    refine g_iload (i := 4) rfl rfl ?_
    refine g_aload_n (i := 0) rfl rfl ?_
    refine g_getfield (v := .int (J 0)) rfl hr (by decide) rfl ?_
    refine g_icmp_gt 113 rfl rfl (fun _ => ?_) (fun hc => absurd hc (by rw [i_lt, j0, ek]; omega))
    have key := hQ h E (by rw [show (if b4 = true then bnT3 0 v a b else []) = [] from by cases b4 <;> rfl, List.append_nil]; exact P)
    rw [show v = W + 1 by omega]
    exact key
  | succ f ih =>
    intro v h L hv hv1 hl E P hQ
    have ek := ofN_toInt (n := v) (by omega)
    obtain ⟨J, fc, hr, b0, b6, h76, -⟩ := id P
    have j0 : (J 0).toInt = ((W : Nat) : Int) := by rw [b0 0 (by decide)]; exact hw0
    have j1 : (J 1).toInt = ((H : Nat) : Int) := by rw [b0 1 (by decide)]; exact hw1
    rw [show bnT3 (f + 1) v a b = (2000 + 100 * a + 10 * b + v) :: bnT3 f (v + 1) a b from rfl] at hl hQ
    have ea := ofN_toInt (n := a) (by omega)
    have eb := ofN_toInt (n := b) (by omega)
    have hl5 := hl
    rw [List.length_cons] at hl5
    refine g_iload (i := 4) rfl rfl ?_
    refine g_aload_n (i := 0) rfl rfl ?_
    refine g_getfield (v := .int (J 0)) rfl hr (by decide) rfl ?_
    refine g_icmp_gt 113 rfl rfl (fun hc => absurd hc (by rw [i_lt, j0, ek]; omega)) (fun _ => ?_)
    refine g_aload_n (i := 0) rfl rfl ?_
    refine g_sipush (n := 2000) rfl ?_
    refine g_bipush (n := 100) rfl ?_
    refine g_iload_n (i := 2) rfl rfl ?_
    have k_1 : ((Int8.ofInt 100).toInt32).toInt = 100 := rfl
    refine g_imul rfl ?_
    have t_2 : (((Int8.ofInt 100).toInt32 * (Int32.ofNat a))).toInt = ((100 * a : Nat) : Int) := n_mul (X := 100) (Y := a) (show _ = ((100 : Nat) : Int) from k_1) (show _ = ((a : Nat) : Int) from ea) (by omega)
    have k_3 : ((Int16.ofInt 2000).toInt32).toInt = 2000 := rfl
    refine g_iadd rfl ?_
    have t_4 : ((Int16.ofInt 2000).toInt32 + ((Int8.ofInt 100).toInt32 * (Int32.ofNat a))).toInt = ((2000 + 100 * a : Nat) : Int) := by rw [i_add (by rw [k_3, t_2]; omega) (by rw [k_3, t_2]; omega), k_3, t_2]; omega
    refine g_bipush (n := 10) rfl ?_
    refine g_iload_n (i := 3) rfl rfl ?_
    have k_5 : ((Int8.ofInt 10).toInt32).toInt = 10 := rfl
    refine g_imul rfl ?_
    have t_6 : (((Int8.ofInt 10).toInt32 * (Int32.ofNat b))).toInt = ((10 * b : Nat) : Int) := n_mul (X := 10) (Y := b) (show _ = ((10 : Nat) : Int) from k_5) (show _ = ((b : Nat) : Int) from eb) (by omega)
    refine g_iadd rfl ?_
    have t_7 : (((Int16.ofInt 2000).toInt32 + ((Int8.ofInt 100).toInt32 * (Int32.ofNat a))) + ((Int8.ofInt 10).toInt32 * (Int32.ofNat b))).toInt = ((2000 + 100 * a + 10 * b : Nat) : Int) := by rw [i_add (by rw [t_4, t_6]; omega) (by rw [t_4, t_6]; omega), t_4, t_6]; omega
    refine g_iload (i := 4) rfl rfl ?_
    refine g_iadd rfl ?_
    have t_8 : ((((Int16.ofInt 2000).toInt32 + ((Int8.ofInt 100).toInt32 * (Int32.ofNat a))) + ((Int8.ofInt 10).toInt32 * (Int32.ofNat b))) + (Int32.ofNat v)).toInt = ((2000 + 100 * a + 10 * b + v : Nat) : Int) := by rw [i_add (by rw [t_7, ek]; omega) (by rw [t_7, ek]; omega), t_7, ek]; omega
    refine g_iload_n (i := 1) rfl rfl ?_
    refine g_iconst (n := 4) rfl ?_
    refine g_iand rfl ?_
    by_cases hfl : b4 = true
    · skip
      refine g_if_eq 103 rfl rfl (fun hc => absurd hc (by exact hk.mp hfl)) (fun _ => ?_)
      refine g_iconst (n := 1) rfl ?_
      refine g_goto 104 rfl rfl ?_
      have hadd := s_lists1 (d := d) (C := 2000 + 100 * a + 10 * b + v) (x := ((((Int16.ofInt 2000).toInt32 + ((Int8.ofInt 100).toInt32 * (Int32.ofNat a))) + ((Int8.ofInt 10).toInt32 * (Int32.ofNat b))) + (Int32.ofNat v))) true (by omega) P (by omega) (of_b (show (((((Int16.ofInt 2000).toInt32 + ((Int8.ofInt 100).toInt32 * (Int32.ofNat a))) + ((Int8.ofInt 10).toInt32 * (Int32.ofNat b))) + (Int32.ofNat v))).toInt = ((2000 + 100 * a + 10 * b + v : Nat) : Int) by rw [t_8] <;> omega) (by omega))
      refine g_virt2 (Qc := fun r h' => r = none ∧ rcP h' (L ++ [2000 + 100 * a + 10 * b + v]) J0 ∧ rsE h h') rfl (by decide) rfl hr rfl (Nat.le_of_ble_eq_true rfl) (hadd) (fun r h9 hq9 => ?_)
      obtain ⟨rfl, P1, E1⟩ := hq9
      refine g_iinc (i := 4) (L1 := [some (.ref 60), some (.int kd), some (.int (Int32.ofNat a)), some (.int (Int32.ofNat b)), some (.int ((Int32.ofNat v) + Int32.ofInt 1))]) rfl rfl rfl ?_
      rw [ofN_add (by omega)]
      refine g_goto 67 rfl rfl ?_
      exact ih (v + 1) h9 (L ++ [2000 + 100 * a + 10 * b + v]) (by omega) (by omega) (by rw [List.length_append]; rw [List.length_cons] at hl; show L.length + 1 + _ ≤ 644; omega) (rsE_tr E E1) P1 (fun h' e p => hQ h' e (by rw [if_pos hfl] at p ⊢; rw [List.append_assoc] at p; exact p))
    · skip
      refine g_if_eq 103 rfl rfl (fun _ => ?_) (fun hc => absurd hc (by exact fun z => hfl (hk.mpr z)))
      refine g_iconst (n := 0) rfl ?_
      have hadd := s_lists1 (d := d) (C := 2000 + 100 * a + 10 * b + v) (x := ((((Int16.ofInt 2000).toInt32 + ((Int8.ofInt 100).toInt32 * (Int32.ofNat a))) + ((Int8.ofInt 10).toInt32 * (Int32.ofNat b))) + (Int32.ofNat v))) false (by omega) P (by omega) (of_b (show (((((Int16.ofInt 2000).toInt32 + ((Int8.ofInt 100).toInt32 * (Int32.ofNat a))) + ((Int8.ofInt 10).toInt32 * (Int32.ofNat b))) + (Int32.ofNat v))).toInt = ((2000 + 100 * a + 10 * b + v : Nat) : Int) by rw [t_8] <;> omega) (by omega))
      refine g_virt2 (Qc := fun r h' => r = none ∧ rcP h' (L ++ []) J0 ∧ rsE h h') rfl (by decide) rfl hr rfl (Nat.le_of_ble_eq_true rfl) (hadd) (fun r h9 hq9 => ?_)
      obtain ⟨rfl, P1, E1⟩ := hq9
      refine g_iinc (i := 4) (L1 := [some (.ref 60), some (.int kd), some (.int (Int32.ofNat a)), some (.int (Int32.ofNat b)), some (.int ((Int32.ofNat v) + Int32.ofInt 1))]) rfl rfl rfl ?_
      rw [ofN_add (by omega)]
      refine g_goto 67 rfl rfl ?_
      rw [List.append_nil] at P1
      exact ih (v + 1) h9 L (by omega) (by omega) (by rw [List.length_cons] at hl; omega) (rsE_tr E E1) P1 (fun h' e p => hQ h' e (by rw [if_neg hfl] at p ⊢; exact p))
theorem s_lm_bn2 {d : Nat} {h0 : sHp} {W H : Nat} {J0 : Nat → Int32} {kd : Int32} {Q : Option Value → sHp → Prop} (hd : 2 ≤ d) (g : gdM J0 W H) {a : Nat} (ha : a ≤ 8) {b4 : Bool} (hk : b4 = true ↔ ¬ (kd &&& Int32.ofInt 4 = 0)) : ∀ (f v : Nat) (o4 : Option Value) (h : sHp) (L : List Nat), v + f = H → 1 ≤ v → L.length + (bnT2 W f v a).length ≤ 644 → rsE h0 h → rcP h L J0 → (∀ (h' : sHp) (o4 : Option Value), rsE h0 h' → rcP h' (L ++ (if b4 = true then bnT2 W f v a else [])) J0 → sGo none 232 d 119 [some (.ref 60), some (.int kd), some (.int (Int32.ofNat a)), some (.int (Int32.ofNat H)), o4] [] h' Q) → sGo none 232 d 56 [some (.ref 60), some (.int kd), some (.int (Int32.ofNat a)), some (.int (Int32.ofNat v)), o4] [] h Q := by
  obtain ⟨gw, gh, w2, w8, h2, h8⟩ := id g
  have hw0 : (J0 0).toInt = ((W : Nat) : Int) := by rw [gw]; exact ofN_toInt (by omega)
  have hw1 : (J0 1).toInt = ((H : Nat) : Int) := by rw [gh]; exact ofN_toInt (by omega)
  intro f
  induction f with
  | zero =>
    intro v o4 h L hv hv1 hl E P hQ
    have ek := ofN_toInt (n := v) (by omega)
    obtain ⟨J, fc, hr, b0, b6, h76, -⟩ := id P
    have j0 : (J 0).toInt = ((W : Nat) : Int) := by rw [b0 0 (by decide)]; exact hw0
    have j1 : (J 1).toInt = ((H : Nat) : Int) := by rw [b0 1 (by decide)]; exact hw1
    refine g_iload_n (i := 3) rfl rfl ?_
    refine g_aload_n (i := 0) rfl rfl ?_
    refine g_getfield (v := .int (J 1)) rfl hr (by decide) rfl ?_
    refine g_icmp_ge 119 rfl rfl (fun _ => ?_) (fun hc => absurd hc (by rw [i_le, j1, ek]; omega))
    have key := hQ h o4 E (by rw [show (if b4 = true then bnT2 W 0 v a else []) = [] from by cases b4 <;> rfl, List.append_nil]; exact P)
    rw [show v = H by omega]
    exact key
  | succ f ih =>
    intro v o4 h L hv hv1 hl E P hQ
    have ek := ofN_toInt (n := v) (by omega)
    obtain ⟨J, fc, hr, b0, b6, h76, -⟩ := id P
    have j0 : (J 0).toInt = ((W : Nat) : Int) := by rw [b0 0 (by decide)]; exact hw0
    have j1 : (J 1).toInt = ((H : Nat) : Int) := by rw [b0 1 (by decide)]; exact hw1
    rw [show bnT2 W (f + 1) v a = bnT3 (W + 1) 0 a v ++ bnT2 W f (v + 1) a from rfl] at hl hQ
    have ea := ofN_toInt (n := a) (by omega)
    refine g_iload_n (i := 3) rfl rfl ?_
    refine g_aload_n (i := 0) rfl rfl ?_
    refine g_getfield (v := .int (J 1)) rfl hr (by decide) rfl ?_
    refine g_icmp_ge 119 rfl rfl (fun hc => absurd hc (by rw [i_le, j1, ek]; omega)) (fun _ => ?_)
    refine g_iconst (n := 0) rfl ?_
    refine g_istore (i := 4) (L1 := [some (.ref 60), some (.int kd), some (.int (Int32.ofNat a)), some (.int (Int32.ofNat v)), some (.int (Int32.ofInt 0))]) rfl (Nat.le_of_ble_eq_true rfl) rfl ?_
    have hl2 := hl
    rw [List.length_append] at hl2
    refine s_lm_bn3 hd g ha (show v ≤ 8 by omega) hk (W + 1) 0 h L (by omega) trivial (by omega) E P (fun h2 E2 P2 => ?_)
    refine g_iinc (i := 3) (L1 := [some (.ref 60), some (.int kd), some (.int (Int32.ofNat a)), some (.int ((Int32.ofNat v) + Int32.ofInt 1)), some (.int (Int32.ofNat (W + 1)))]) rfl rfl rfl ?_
    rw [ofN_add (by omega)]
    refine g_goto 56 rfl rfl ?_
    exact ih (v + 1) _ h2 (L ++ (if b4 = true then bnT3 (W + 1) 0 a v else [])) (by omega) (by omega) (by have := bif_len (b := b4) (L := bnT3 (W + 1) 0 a v); rw [List.length_append]; omega) E2 P2 (fun h' x0 e p => hQ h' x0 e (by rw [List.append_assoc, bif_app] at p; exact p))
theorem s_lm_bn1 {d : Nat} {h0 : sHp} {W H : Nat} {J0 : Nat → Int32} {kd : Int32} {Q : Option Value → sHp → Prop} (hd : 2 ≤ d) (g : gdM J0 W H) {b4 : Bool} (hk : b4 = true ↔ ¬ (kd &&& Int32.ofInt 4 = 0)) : ∀ (f v : Nat) (o3 : Option Value) (o4 : Option Value) (h : sHp) (L : List Nat), v + f = W + 1 → True → L.length + (bnT1 W H f v).length ≤ 644 → rsE h0 h → rcP h L J0 → (∀ (h' : sHp) (o3 : Option Value) (o4 : Option Value), rsE h0 h' → rcP h' (L ++ (if b4 = true then bnT1 W H f v else [])) J0 → sGo none 232 d 125 [some (.ref 60), some (.int kd), some (.int (Int32.ofNat (W + 1))), o3, o4] [] h' Q) → sGo none 232 d 46 [some (.ref 60), some (.int kd), some (.int (Int32.ofNat v)), o3, o4] [] h Q := by
  obtain ⟨gw, gh, w2, w8, h2, h8⟩ := id g
  have hw0 : (J0 0).toInt = ((W : Nat) : Int) := by rw [gw]; exact ofN_toInt (by omega)
  have hw1 : (J0 1).toInt = ((H : Nat) : Int) := by rw [gh]; exact ofN_toInt (by omega)
  intro f
  induction f with
  | zero =>
    intro v o3 o4 h L hv hv1 hl E P hQ
    have ek := ofN_toInt (n := v) (by omega)
    obtain ⟨J, fc, hr, b0, b6, h76, -⟩ := id P
    have j0 : (J 0).toInt = ((W : Nat) : Int) := by rw [b0 0 (by decide)]; exact hw0
    have j1 : (J 1).toInt = ((H : Nat) : Int) := by rw [b0 1 (by decide)]; exact hw1
    refine g_iload_n (i := 2) rfl rfl ?_
    refine g_aload_n (i := 0) rfl rfl ?_
    refine g_getfield (v := .int (J 0)) rfl hr (by decide) rfl ?_
    refine g_icmp_gt 125 rfl rfl (fun _ => ?_) (fun hc => absurd hc (by rw [i_lt, j0, ek]; omega))
    have key := hQ h o3 o4 E (by rw [show (if b4 = true then bnT1 W H 0 v else []) = [] from by cases b4 <;> rfl, List.append_nil]; exact P)
    rw [show v = W + 1 by omega]
    exact key
  | succ f ih =>
    intro v o3 o4 h L hv hv1 hl E P hQ
    have ek := ofN_toInt (n := v) (by omega)
    obtain ⟨J, fc, hr, b0, b6, h76, -⟩ := id P
    have j0 : (J 0).toInt = ((W : Nat) : Int) := by rw [b0 0 (by decide)]; exact hw0
    have j1 : (J 1).toInt = ((H : Nat) : Int) := by rw [b0 1 (by decide)]; exact hw1
    rw [show bnT1 W H (f + 1) v = bnT2 W (H - 1) 1 v ++ bnT1 W H f (v + 1) from rfl] at hl hQ
    refine g_iload_n (i := 2) rfl rfl ?_
    refine g_aload_n (i := 0) rfl rfl ?_
    refine g_getfield (v := .int (J 0)) rfl hr (by decide) rfl ?_
    refine g_icmp_gt 125 rfl rfl (fun hc => absurd hc (by rw [i_lt, j0, ek]; omega)) (fun _ => ?_)
    refine g_iconst (n := 1) rfl ?_
    refine g_istore_n (i := 3) (L1 := [some (.ref 60), some (.int kd), some (.int (Int32.ofNat v)), some (.int (Int32.ofInt 1)), o4]) rfl (Nat.le_of_ble_eq_true rfl) rfl ?_
    have hl2 := hl
    rw [List.length_append] at hl2
    refine s_lm_bn2 hd g (show v ≤ 8 by omega) hk (H - 1) 1 _ h L (by omega) (by omega) (by omega) E P (fun h2 o5 E2 P2 => ?_)
    refine g_iinc (i := 2) (L1 := [some (.ref 60), some (.int kd), some (.int ((Int32.ofNat v) + Int32.ofInt 1)), some (.int (Int32.ofNat H)), o5]) rfl rfl rfl ?_
    rw [ofN_add (by omega)]
    refine g_goto 46 rfl rfl ?_
    exact ih (v + 1) _ _ h2 (L ++ (if b4 = true then bnT2 W (H - 1) 1 v else [])) (by omega) (by omega) (by have := bif_len (b := b4) (L := bnT2 W (H - 1) 1 v); rw [List.length_append]; omega) E2 P2 (fun h' x0 x1 e p => hQ h' x0 x1 e (by rw [List.append_assoc, bif_app] at p; exact p))
theorem s_lm_fr2 {d : Nat} {h0 : sHp} {W H : Nat} {J0 : Nat → Int32} {kd : Int32} {Q : Option Value → sHp → Prop} (hd : 2 ≤ d) (g : gdM J0 W H) {a : Nat} {o4 : Option Value} (ha : a ≤ 8) {b32 : Bool} (hk : b32 = true ↔ ¬ (kd &&& (Int8.ofInt 32).toInt32 = 0)) : ∀ (f v : Nat) (h : sHp) (L : List Nat), v + f = H + 1 → 1 ≤ v → L.length + (frT2 W H f v a).length ≤ 644 → rsE h0 h → rcP h L J0 → (∀ (h' : sHp), rsE h0 h' → rcP h' (L ++ (if b32 = true then frT2 W H f v a else [])) J0 → sGo none 232 d 236 [some (.ref 60), some (.int kd), some (.int (Int32.ofNat a)), some (.int (Int32.ofNat (H + 1))), o4] [] h' Q) → sGo none 232 d 177 [some (.ref 60), some (.int kd), some (.int (Int32.ofNat a)), some (.int (Int32.ofNat v)), o4] [] h Q := by
  obtain ⟨gw, gh, w2, w8, h2, h8⟩ := id g
  have hw0 : (J0 0).toInt = ((W : Nat) : Int) := by rw [gw]; exact ofN_toInt (by omega)
  have hw1 : (J0 1).toInt = ((H : Nat) : Int) := by rw [gh]; exact ofN_toInt (by omega)
  intro f
  induction f with
  | zero =>
    intro v h L hv hv1 hl E P hQ
    have ek := ofN_toInt (n := v) (by omega)
    obtain ⟨J, fc, hr, b0, b6, h76, -⟩ := id P
    have j0 : (J 0).toInt = ((W : Nat) : Int) := by rw [b0 0 (by decide)]; exact hw0
    have j1 : (J 1).toInt = ((H : Nat) : Int) := by rw [b0 1 (by decide)]; exact hw1
    refine g_iload_n (i := 3) rfl rfl ?_
    refine g_aload_n (i := 0) rfl rfl ?_
    refine g_getfield (v := .int (J 1)) rfl hr (by decide) rfl ?_
    refine g_icmp_gt 236 rfl rfl (fun _ => ?_) (fun hc => absurd hc (by rw [i_lt, j1, ek]; omega))
    have key := hQ h E (by rw [show (if b32 = true then frT2 W H 0 v a else []) = [] from by cases b32 <;> rfl, List.append_nil]; exact P)
    rw [show v = H + 1 by omega]
    exact key
  | succ f ih =>
    intro v h L hv hv1 hl E P hQ
    have ek := ofN_toInt (n := v) (by omega)
    obtain ⟨J, fc, hr, b0, b6, h76, -⟩ := id P
    have j0 : (J 0).toInt = ((W : Nat) : Int) := by rw [b0 0 (by decide)]; exact hw0
    have j1 : (J 1).toInt = ((H : Nat) : Int) := by rw [b0 1 (by decide)]; exact hw1
    rw [show frT2 W H (f + 1) v a = (if a < W ∨ v < H then [5000 + 100 * a + 10 * v] else []) ++ frT2 W H f (v + 1) a from rfl] at hl hQ
    have ea := ofN_toInt (n := a) (by omega)
    have hl3 : L.length < 999 := by omega
    refine g_iload_n (i := 3) rfl rfl ?_
    refine g_aload_n (i := 0) rfl rfl ?_
    refine g_getfield (v := .int (J 1)) rfl hr (by decide) rfl ?_
    refine g_icmp_gt 236 rfl rfl (fun hc => absurd hc (by rw [i_lt, j1, ek]; omega)) (fun _ => ?_)
    refine g_aload_n (i := 0) rfl rfl ?_
    refine g_sipush (n := 5000) rfl ?_
    refine g_bipush (n := 100) rfl ?_
    refine g_iload_n (i := 2) rfl rfl ?_
    have k_1 : ((Int8.ofInt 100).toInt32).toInt = 100 := rfl
    refine g_imul rfl ?_
    have t_2 : (((Int8.ofInt 100).toInt32 * (Int32.ofNat a))).toInt = ((100 * a : Nat) : Int) := n_mul (X := 100) (Y := a) (show _ = ((100 : Nat) : Int) from k_1) (show _ = ((a : Nat) : Int) from ea) (by omega)
    have k_3 : ((Int16.ofInt 5000).toInt32).toInt = 5000 := rfl
    refine g_iadd rfl ?_
    have t_4 : ((Int16.ofInt 5000).toInt32 + ((Int8.ofInt 100).toInt32 * (Int32.ofNat a))).toInt = ((5000 + 100 * a : Nat) : Int) := by rw [i_add (by rw [k_3, t_2]; omega) (by rw [k_3, t_2]; omega), k_3, t_2]; omega
    refine g_bipush (n := 10) rfl ?_
    refine g_iload_n (i := 3) rfl rfl ?_
    have k_5 : ((Int8.ofInt 10).toInt32).toInt = 10 := rfl
    refine g_imul rfl ?_
    have t_6 : (((Int8.ofInt 10).toInt32 * (Int32.ofNat v))).toInt = ((10 * v : Nat) : Int) := n_mul (X := 10) (Y := v) (show _ = ((10 : Nat) : Int) from k_5) (show _ = ((v : Nat) : Int) from ek) (by omega)
    refine g_iadd rfl ?_
    have t_7 : (((Int16.ofInt 5000).toInt32 + ((Int8.ofInt 100).toInt32 * (Int32.ofNat a))) + ((Int8.ofInt 10).toInt32 * (Int32.ofNat v))).toInt = ((5000 + 100 * a + 10 * v : Nat) : Int) := by rw [i_add (by rw [t_4, t_6]; omega) (by rw [t_4, t_6]; omega), t_4, t_6]; omega
    refine g_iload_n (i := 1) rfl rfl ?_
    refine g_bipush (n := 32) rfl ?_
    refine g_iand rfl ?_
    by_cases hfl : b32 = true
    · skip
      refine g_if_eq 226 rfl rfl (fun hc => absurd hc (by exact hk.mp hfl)) (fun _ => ?_)
      refine g_iload_n (i := 2) rfl rfl ?_
      refine g_aload_n (i := 0) rfl rfl ?_
      refine g_getfield (v := .int (J 0)) rfl hr (by decide) rfl ?_
      refine g_icmp_lt 222 rfl rfl (fun c_8 => ?_) (fun c_8 => ?_)
      · skip
        rw [i_lt, ea, j0] at c_8
        refine g_iconst (n := 1) rfl ?_
        refine g_goto 227 rfl rfl ?_
        have hadd := s_lists1 (d := d) (C := 5000 + 100 * a + 10 * v) (x := (((Int16.ofInt 5000).toInt32 + ((Int8.ofInt 100).toInt32 * (Int32.ofNat a))) + ((Int8.ofInt 10).toInt32 * (Int32.ofNat v)))) true (by omega) P (by omega) (of_b (show ((((Int16.ofInt 5000).toInt32 + ((Int8.ofInt 100).toInt32 * (Int32.ofNat a))) + ((Int8.ofInt 10).toInt32 * (Int32.ofNat v)))).toInt = ((5000 + 100 * a + 10 * v : Nat) : Int) by rw [t_7] <;> omega) (by omega))
        refine g_virt2 (Qc := fun r h' => r = none ∧ rcP h' (L ++ [5000 + 100 * a + 10 * v]) J0 ∧ rsE h h') rfl (by decide) rfl hr rfl (Nat.le_of_ble_eq_true rfl) (hadd) (fun r h9 hq9 => ?_)
        obtain ⟨rfl, P1, E1⟩ := hq9
        refine g_iinc (i := 3) (L1 := [some (.ref 60), some (.int kd), some (.int (Int32.ofNat a)), some (.int ((Int32.ofNat v) + Int32.ofInt 1)), o4]) rfl rfl rfl ?_
        rw [ofN_add (by omega)]
        refine g_goto 177 rfl rfl ?_
        rw [if_pos hfl, if_pos (show a < W ∨ v < H by omega)] at hQ
        rw [if_pos (show a < W ∨ v < H by omega)] at hl
        exact ih (v + 1) h9 (L ++ [5000 + 100 * a + 10 * v]) (by omega) (by omega) (by rw [List.length_append]; rw [List.length_append] at hl; have e1 : [5000 + 100 * a + 10 * v].length = 1 := rfl; omega) (rsE_tr E E1) P1 (fun h' e p => hQ h' e (by rw [if_pos hfl, List.append_assoc] at p; exact p))
      · skip
        rw [i_lt, ea, j0] at c_8
        refine g_iload_n (i := 3) rfl rfl ?_
        refine g_aload_n (i := 0) rfl rfl ?_
        refine g_getfield (v := .int (J 1)) rfl hr (by decide) rfl ?_
        refine g_icmp_ge 226 rfl rfl (fun c_9 => ?_) (fun c_9 => ?_)
        · skip
          rw [i_le, ek, j1] at c_9
          refine g_iconst (n := 0) rfl ?_
          have hadd := s_lists1 (d := d) (C := 5000 + 100 * a + 10 * v) (x := (((Int16.ofInt 5000).toInt32 + ((Int8.ofInt 100).toInt32 * (Int32.ofNat a))) + ((Int8.ofInt 10).toInt32 * (Int32.ofNat v)))) false (by omega) P (by omega) (of_b (show ((((Int16.ofInt 5000).toInt32 + ((Int8.ofInt 100).toInt32 * (Int32.ofNat a))) + ((Int8.ofInt 10).toInt32 * (Int32.ofNat v)))).toInt = ((5000 + 100 * a + 10 * v : Nat) : Int) by rw [t_7] <;> omega) (by omega))
          refine g_virt2 (Qc := fun r h' => r = none ∧ rcP h' (L ++ []) J0 ∧ rsE h h') rfl (by decide) rfl hr rfl (Nat.le_of_ble_eq_true rfl) (hadd) (fun r h9 hq9 => ?_)
          obtain ⟨rfl, P1, E1⟩ := hq9
          refine g_iinc (i := 3) (L1 := [some (.ref 60), some (.int kd), some (.int (Int32.ofNat a)), some (.int ((Int32.ofNat v) + Int32.ofInt 1)), o4]) rfl rfl rfl ?_
          rw [ofN_add (by omega)]
          refine g_goto 177 rfl rfl ?_
          rw [List.append_nil] at P1
          rw [if_pos hfl, if_neg (show ¬ (a < W ∨ v < H) by omega), List.nil_append] at hQ
          rw [if_neg (show ¬ (a < W ∨ v < H) by omega), List.nil_append] at hl
          exact ih (v + 1) h9 L (by omega) (by omega) hl (rsE_tr E E1) P1 (fun h' e p => hQ h' e (by rw [if_pos hfl] at p; exact p))
        · skip
          rw [i_le, ek, j1] at c_9
          refine g_iconst (n := 1) rfl ?_
          refine g_goto 227 rfl rfl ?_
          have hadd := s_lists1 (d := d) (C := 5000 + 100 * a + 10 * v) (x := (((Int16.ofInt 5000).toInt32 + ((Int8.ofInt 100).toInt32 * (Int32.ofNat a))) + ((Int8.ofInt 10).toInt32 * (Int32.ofNat v)))) true (by omega) P (by omega) (of_b (show ((((Int16.ofInt 5000).toInt32 + ((Int8.ofInt 100).toInt32 * (Int32.ofNat a))) + ((Int8.ofInt 10).toInt32 * (Int32.ofNat v)))).toInt = ((5000 + 100 * a + 10 * v : Nat) : Int) by rw [t_7] <;> omega) (by omega))
          refine g_virt2 (Qc := fun r h' => r = none ∧ rcP h' (L ++ [5000 + 100 * a + 10 * v]) J0 ∧ rsE h h') rfl (by decide) rfl hr rfl (Nat.le_of_ble_eq_true rfl) (hadd) (fun r h9 hq9 => ?_)
          obtain ⟨rfl, P1, E1⟩ := hq9
          refine g_iinc (i := 3) (L1 := [some (.ref 60), some (.int kd), some (.int (Int32.ofNat a)), some (.int ((Int32.ofNat v) + Int32.ofInt 1)), o4]) rfl rfl rfl ?_
          rw [ofN_add (by omega)]
          refine g_goto 177 rfl rfl ?_
          rw [if_pos hfl, if_pos (show a < W ∨ v < H by omega)] at hQ
          rw [if_pos (show a < W ∨ v < H by omega)] at hl
          exact ih (v + 1) h9 (L ++ [5000 + 100 * a + 10 * v]) (by omega) (by omega) (by rw [List.length_append]; rw [List.length_append] at hl; have e1 : [5000 + 100 * a + 10 * v].length = 1 := rfl; omega) (rsE_tr E E1) P1 (fun h' e p => hQ h' e (by rw [if_pos hfl, List.append_assoc] at p; exact p))
    · skip
      refine g_if_eq 226 rfl rfl (fun _ => ?_) (fun hc => absurd hc (by exact fun z => hfl (hk.mpr z)))
      refine g_iconst (n := 0) rfl ?_
      have hadd := s_lists1 (d := d) (C := 5000 + 100 * a + 10 * v) (x := (((Int16.ofInt 5000).toInt32 + ((Int8.ofInt 100).toInt32 * (Int32.ofNat a))) + ((Int8.ofInt 10).toInt32 * (Int32.ofNat v)))) false (by omega) P (by omega) (of_b (show ((((Int16.ofInt 5000).toInt32 + ((Int8.ofInt 100).toInt32 * (Int32.ofNat a))) + ((Int8.ofInt 10).toInt32 * (Int32.ofNat v)))).toInt = ((5000 + 100 * a + 10 * v : Nat) : Int) by rw [t_7] <;> omega) (by omega))
      refine g_virt2 (Qc := fun r h' => r = none ∧ rcP h' (L ++ []) J0 ∧ rsE h h') rfl (by decide) rfl hr rfl (Nat.le_of_ble_eq_true rfl) (hadd) (fun r h9 hq9 => ?_)
      obtain ⟨rfl, P1, E1⟩ := hq9
      refine g_iinc (i := 3) (L1 := [some (.ref 60), some (.int kd), some (.int (Int32.ofNat a)), some (.int ((Int32.ofNat v) + Int32.ofInt 1)), o4]) rfl rfl rfl ?_
      rw [ofN_add (by omega)]
      refine g_goto 177 rfl rfl ?_
      rw [List.append_nil] at P1
      exact ih (v + 1) h9 L (by omega) (by omega) (by rw [List.length_append] at hl; omega) (rsE_tr E E1) P1 (fun h' e p => hQ h' e (by rw [if_neg hfl] at p ⊢; exact p))
theorem s_lm_fr1 {d : Nat} {h0 : sHp} {W H : Nat} {J0 : Nat → Int32} {kd : Int32} {Q : Option Value → sHp → Prop} (hd : 2 ≤ d) (g : gdM J0 W H) {o4 : Option Value} {b32 : Bool} (hk : b32 = true ↔ ¬ (kd &&& (Int8.ofInt 32).toInt32 = 0)) : ∀ (f v : Nat) (o3 : Option Value) (h : sHp) (L : List Nat), v + f = W + 1 → 1 ≤ v → L.length + (frT1 W H f v).length ≤ 644 → rsE h0 h → rcP h L J0 → (∀ (h' : sHp) (o3 : Option Value), rsE h0 h' → rcP h' (L ++ (if b32 = true then frT1 W H f v else [])) J0 → sGo none 232 d 242 [some (.ref 60), some (.int kd), some (.int (Int32.ofNat (W + 1))), o3, o4] [] h' Q) → sGo none 232 d 167 [some (.ref 60), some (.int kd), some (.int (Int32.ofNat v)), o3, o4] [] h Q := by
  obtain ⟨gw, gh, w2, w8, h2, h8⟩ := id g
  have hw0 : (J0 0).toInt = ((W : Nat) : Int) := by rw [gw]; exact ofN_toInt (by omega)
  have hw1 : (J0 1).toInt = ((H : Nat) : Int) := by rw [gh]; exact ofN_toInt (by omega)
  intro f
  induction f with
  | zero =>
    intro v o3 h L hv hv1 hl E P hQ
    have ek := ofN_toInt (n := v) (by omega)
    obtain ⟨J, fc, hr, b0, b6, h76, -⟩ := id P
    have j0 : (J 0).toInt = ((W : Nat) : Int) := by rw [b0 0 (by decide)]; exact hw0
    have j1 : (J 1).toInt = ((H : Nat) : Int) := by rw [b0 1 (by decide)]; exact hw1
    refine g_iload_n (i := 2) rfl rfl ?_
    refine g_aload_n (i := 0) rfl rfl ?_
    refine g_getfield (v := .int (J 0)) rfl hr (by decide) rfl ?_
    refine g_icmp_gt 242 rfl rfl (fun _ => ?_) (fun hc => absurd hc (by rw [i_lt, j0, ek]; omega))
    have key := hQ h o3 E (by rw [show (if b32 = true then frT1 W H 0 v else []) = [] from by cases b32 <;> rfl, List.append_nil]; exact P)
    rw [show v = W + 1 by omega]
    exact key
  | succ f ih =>
    intro v o3 h L hv hv1 hl E P hQ
    have ek := ofN_toInt (n := v) (by omega)
    obtain ⟨J, fc, hr, b0, b6, h76, -⟩ := id P
    have j0 : (J 0).toInt = ((W : Nat) : Int) := by rw [b0 0 (by decide)]; exact hw0
    have j1 : (J 1).toInt = ((H : Nat) : Int) := by rw [b0 1 (by decide)]; exact hw1
    rw [show frT1 W H (f + 1) v = frT2 W H H 1 v ++ frT1 W H f (v + 1) from rfl] at hl hQ
    refine g_iload_n (i := 2) rfl rfl ?_
    refine g_aload_n (i := 0) rfl rfl ?_
    refine g_getfield (v := .int (J 0)) rfl hr (by decide) rfl ?_
    refine g_icmp_gt 242 rfl rfl (fun hc => absurd hc (by rw [i_lt, j0, ek]; omega)) (fun _ => ?_)
    refine g_iconst (n := 1) rfl ?_
    refine g_istore_n (i := 3) (L1 := [some (.ref 60), some (.int kd), some (.int (Int32.ofNat v)), some (.int (Int32.ofInt 1)), o4]) rfl (Nat.le_of_ble_eq_true rfl) rfl ?_
    have hl2 := hl
    rw [List.length_append] at hl2
    refine s_lm_fr2 hd g (show v ≤ 8 by omega) hk H 1 h L (by omega) (by omega) (by omega) E P (fun h2 E2 P2 => ?_)
    refine g_iinc (i := 2) (L1 := [some (.ref 60), some (.int kd), some (.int ((Int32.ofNat v) + Int32.ofInt 1)), some (.int (Int32.ofNat (H + 1))), o4]) rfl rfl rfl ?_
    rw [ofN_add (by omega)]
    refine g_goto 167 rfl rfl ?_
    exact ih (v + 1) _ h2 (L ++ (if b32 = true then frT2 W H H 1 v else [])) (by omega) (by omega) (by have := bif_len (b := b32) (L := frT2 W H H 1 v); rw [List.length_append]; omega) E2 P2 (fun h' x0 e p => hQ h' x0 e (by rw [List.append_assoc, bif_app] at p; exact p))
theorem s_lists12 {d : Nat} {h : sHp} {W H : Nat} {J fc : Nat → Int32} {kd : Int32} {b4 b32 : Bool} (hd : 3 ≤ d) (g : gdM J W H) (hr : h[60]? = some (mO J)) (h76 : h[76]? = some (.inl (0, 1000, .inl fc))) (k2 : ¬ (kd &&& Int32.ofInt 2 = 0)) (k16 : ¬ (kd &&& (Int8.ofInt 16).toInt32 = 0)) (k4 : b4 = true ↔ ¬ (kd &&& Int32.ofInt 4 = 0)) (k32 : b32 = true ↔ ¬ (kd &&& (Int8.ofInt 32).toInt32 = 0)) : sDo d 232 [.ref 60, .int kd] h (fun r h' => r = none ∧ rcP h' (lsT W H b4 b32) J ∧ rsE h h') := by
  have g' := g
  obtain ⟨-, -, w2, w8, h2, h8⟩ := g'
  have hls := ls_le w8 h8
  have P0 : rcP (h.set 60 (mO (upd J 31 (Int32.ofInt 0)))) [] J := ⟨_, fc, s_set_eq hr, fun j hj => u_ne hj, u_at, by rw [s_set_ne (by decide)]; exact h76, fun i c hi => by cases hi⟩
  have E0 : rsE h (h.set 60 (mO (upd J 31 (Int32.ofInt 0)))) := ⟨List.length_set, fun q h1 _ => s_set_ne (Ne.symm h1)⟩
  have l4 := bif_len (b := b4) (L := bnT1 W H (W + 1) 0)
  unfold lsT
  refine sDo_of1 (nL := 5) (L := [some (.ref 60), some (.int kd), none, none, none]) (by omega) rfl rfl ?_
  refine g_aload_n (i := 0) rfl rfl ?_
  refine g_iconst (n := 0) rfl ?_
  refine g_putfield (h1 := h.set 60 (mO (upd J 31 (Int32.ofInt 0)))) rfl hr (by decide) (Nat.le_of_ble_eq_true rfl) rfl rfl ?_
  refine g_iconst (n := 1) rfl ?_
  refine g_istore_n (i := 2) (L1 := [some (.ref 60), some (.int kd), some (.int (Int32.ofInt 1)), none, none]) rfl (Nat.le_of_ble_eq_true rfl) rfl ?_
  refine s_lm_str (d := d - 1) (by omega) g k2 (W - 1) 1 _ [] (by omega) (by omega) (by show 0 + _ ≤ 644; omega) E0 P0 (fun h2 E2 P2 => ?_)
  rw [List.nil_append] at P2
  refine g_iconst (n := 0) rfl ?_
  refine g_istore_n (i := 2) (L1 := [some (.ref 60), some (.int kd), some (.int (Int32.ofInt 0)), none, none]) rfl (Nat.le_of_ble_eq_true rfl) rfl ?_
  refine s_lm_bn1 (d := d - 1) (by omega) g k4 (W + 1) 0 _ _ _ (strT (W - 1) 1) (by omega) trivial (by omega) E2 P2 (fun h3 o3 o4 E3 P3 => ?_)
  refine g_iconst (n := 1) rfl ?_
  refine g_istore_n (i := 2) (L1 := [some (.ref 60), some (.int kd), some (.int (Int32.ofInt 1)), o3, o4]) rfl (Nat.le_of_ble_eq_true rfl) rfl ?_
  refine s_lm_al (d := d - 1) (by omega) g k16 (H - 1) 1 _ _ (by omega) (by omega) (by rw [List.length_append]; omega) E3 P3 (fun h4 E4 P4 => ?_)
  refine g_iconst (n := 1) rfl ?_
  refine g_istore_n (i := 2) (L1 := [some (.ref 60), some (.int kd), some (.int (Int32.ofInt 1)), o3, o4]) rfl (Nat.le_of_ble_eq_true rfl) rfl ?_
  refine s_lm_fr1 (d := d - 1) (by omega) g k32 W 1 _ _ _ (by omega) (by omega) (by simp only [List.length_append]; omega) E4 P4 (fun h5 o3 E5 P5 => ?_)
  refine g_return rfl rfl ?_
  exact ⟨rfl, by simpa only [List.append_assoc] using P5, E5⟩
end
section
/-! ===== which cuts fit: old, sure ===== -/
theorem ls_k {W H : Nat} {b4 b32 : Bool} (w8 : W ≤ 8) (h8 : H ≤ 8) : ∀ C ∈ lsT W H b4 b32, C < 7000 ∧ ¬ C / 1000 = 3 := by
  have key : ((List.range 9).all fun W => (List.range 9).all fun H => (lsT W H true true).all fun C => Nat.blt C 7000 && !(Nat.beq (C / 1000) 3)) = true := by decide +kernel
  have k := List.all_eq_true.mp (rg_all (rg_all key W (by omega)) H (by omega))
  have sub : ∀ C, C ∈ lsT W H b4 b32 → C ∈ lsT W H true true := fun C hC => by
    unfold lsT at hC ⊢
    rw [if_pos rfl, if_pos rfl]
    simp only [List.mem_append] at hC ⊢
    rcases hC with h | h | h | h
    · exact Or.inl h
    · refine Or.inr (Or.inl ?_)
      cases b4
      · exact absurd h (by intro z; cases z)
      · exact h
    · exact Or.inr (Or.inr (Or.inl h))
    · refine Or.inr (Or.inr (Or.inr ?_))
      cases b32
      · exact absurd h (by intro z; cases z)
      · exact h
  intro C hC
  have h := k C (sub C hC)
  simp only [Bool.and_eq_true, Bool.not_eq_true'] at h
  exact ⟨Nat.le_of_ble_eq_true h.1, fun z => by have := h.2; rw [z] at this; cases this⟩
theorem ls_len {W H : Nat} {b4 b32 : Bool} (w8 : W ≤ 8) (h8 : H ≤ 8) : (lsT W H b4 b32).length ≤ 644 := by
  have := ls_le w8 h8
  have := bif_len (b := b4) (L := bnT1 W H (W + 1) 0)
  have := bif_len (b := b32) (L := frT1 W H W 1)
  unfold lsT
  simp only [List.length_append]
  omega
theorem fit_iff2 {W N C sz : Nat} {T : Nat → Int32} (hN : N ≤ 64) (hC : ¬ C / 1000 = 3) : (toS N T sz 0 &&& (fsS W N C ^^^ lM1) = Int64.ofNat 0 ∧ toS N T sz 1 &&& fsS W N C = Int64.ofNat 0) ↔ fitP W N C T sz := by
  have sd : ∀ q, sdC W C q = if isF W C q = true then 0 else 1 := fun q => by unfold sdC; rw [if_neg (fun z => hC z.1)]
  rw [bt_eq0, bt_eq0]
  unfold fitP toS fsS
  constructor
  · rintro ⟨k1, k2⟩ q h1 h2
    have k1 := k1 q (by omega)
    have k2 := k2 q (by omega)
    rw [bt_and, bt_not, bt_stO _ _ hN, bt_stO _ _ hN, decide_eq_true h1, decide_eq_true h2, decide_eq_true (show q < 64 by omega), Bool.true_and, Bool.true_and, Bool.true_and, Bool.true_and] at k1
    rw [bt_and, bt_stO _ _ hN, bt_stO _ _ hN, decide_eq_true h1, decide_eq_true h2, Bool.true_and, Bool.true_and, Bool.true_and] at k2
    rw [sd]
    refine ⟨fun z => ?_, fun z => ?_⟩
    · rw [decide_eq_true z, Bool.true_and, Bool.not_eq_false'] at k1
      rw [if_pos k1]
    · rw [decide_eq_true z, Bool.true_and] at k2
      rw [if_neg (by rw [k2]; decide)]
  · intro h
    refine ⟨fun q hq => ?_, fun q hq => ?_⟩
    · rw [bt_and, bt_not, bt_stO _ _ hN, bt_stO _ _ hN, decide_eq_true hq, Bool.true_and]
      by_cases h1 : q < N
      · by_cases h2 : q < sz
        · have k := h q h1 h2
          rw [sd] at k
          rw [decide_eq_true h1, decide_eq_true h2, Bool.true_and, Bool.true_and, Bool.true_and]
          by_cases z : T q = 0
          · have k1 := k.1 z
            by_cases y : isF W C q = true
            · rw [y, Bool.not_true, Bool.and_false]
            · rw [if_neg y] at k1; omega
          · rw [decide_eq_false z, Bool.false_and]
        · rw [decide_eq_false h2]; simp
      · rw [decide_eq_false h1]; simp
    · rw [bt_and, bt_stO _ _ hN, bt_stO _ _ hN]
      by_cases h1 : q < N
      · by_cases h2 : q < sz
        · have k := h q h1 h2
          rw [sd] at k
          rw [decide_eq_true h1, decide_eq_true h2, Bool.true_and, Bool.true_and, Bool.true_and]
          by_cases z : T q = 1
          · have k1 := k.2 z
            by_cases y : isF W C q = true
            · rw [if_pos y] at k1; omega
            · rw [nTF y, Bool.and_false]
          · rw [decide_eq_false z, Bool.false_and]
        · rw [decide_eq_false h2]; simp
      · rw [decide_eq_false h1]; simp
noncomputable def fcN (W N : Nat) (T : Nat → Int32) (sz : Nat) : List Nat → Nat → Nat
  | [], n => n
  | C :: L, n => @ite _ (fitP W N C T sz) (Classical.propDecidable _) (fcN W N T sz L (n + 1)) (fcN W N T sz L n)
noncomputable def fcX (W N : Nat) (T : Nat → Int32) (sz : Nat) (v : Int) : List Nat → Int64 → Int64
  | [], x => x
  | C :: L, x => @ite _ (fitP W N C T sz) (Classical.propDecidable _) (fcX W N T sz v L (x &&& sdS W N C v)) (fcX W N T sz v L x)
theorem fcN_y {W N sz C n : Nat} {T : Nat → Int32} {L : List Nat} (h : fitP W N C T sz) : fcN W N T sz (C :: L) n = fcN W N T sz L (n + 1) := @if_pos _ (Classical.propDecidable _) h _ _ _
theorem fcN_n {W N sz C n : Nat} {T : Nat → Int32} {L : List Nat} (h : ¬ fitP W N C T sz) : fcN W N T sz (C :: L) n = fcN W N T sz L n := @if_neg _ (Classical.propDecidable _) h _ _ _
theorem fcX_y {W N sz C : Nat} {T : Nat → Int32} {v : Int} {L : List Nat} {x : Int64} (h : fitP W N C T sz) : fcX W N T sz v (C :: L) x = fcX W N T sz v L (x &&& sdS W N C v) := @if_pos _ (Classical.propDecidable _) h _ _ _
theorem fcX_n {W N sz C : Nat} {T : Nat → Int32} {v : Int} {L : List Nat} {x : Int64} (h : ¬ fitP W N C T sz) : fcX W N T sz v (C :: L) x = fcX W N T sz v L x := @if_neg _ (Classical.propDecidable _) h _ _ _
theorem fcN_ge {W N sz : Nat} {T : Nat → Int32} : ∀ {L : List Nat} {n : Nat}, n ≤ fcN W N T sz L n ∧ fcN W N T sz L n ≤ n + L.length := by
  intro L
  induction L with
  | nil => intro n; exact ⟨Nat.le_refl _, Nat.le_refl _⟩
  | cons C L ih =>
    intro n
    by_cases h : fitP W N C T sz
    · rw [fcN_y h, List.length_cons]; have := ih (n := n + 1); omega
    · rw [fcN_n h, List.length_cons]; have := ih (n := n); omega
theorem sd1_of {W N C : Nat} {x : Int64} (hN : N ≤ 64) (hC : ¬ C / 1000 = 3) (hx : inN x N) : x &&& (fsS W N C ^^^ lM1) = x &&& sdS W N C 1 := bt_ext (fun q hq => by
  rw [bt_and, bt_and, bt_not]
  unfold fsS sdS
  rw [bt_stO _ _ hN, bt_stO _ _ hN, decide_eq_true hq, Bool.true_and]
  by_cases z : bt x q = true
  · have h1 := hx q hq z
    rw [z, decide_eq_true h1, Bool.true_and, Bool.true_and, Bool.true_and, Bool.true_and]
    unfold sdC
    rw [if_neg (fun z => hC z.1)]
    cases isF W C q <;> rfl
  · rw [nTF z, Bool.false_and, Bool.false_and])
theorem inN_and {x y : Int64} {n : Nat} (h : inN x n) : inN (x &&& y) n := fun i hi z => h i hi (by rw [bt_and, Bool.and_eq_true] at z; exact z.1)
theorem inN_all {n : Nat} (hn : n ≤ 64) : inN (stO (fun _ => true) n) n := fun i hi z => by
  rw [bt_stO _ _ hn, Bool.and_true] at z
  exact of_decide_eq_true z
theorem s_ff_go {d : Nat} {h0 : sHp} {c : CF} {W H n : Nat} {T : Nat → Int32} {L : List Nat} {ff : Nat → Int64} {tp : Nat} {B0 : Nat → Int32} (hd : 1 ≤ d) (g : gdF c W H) (hk : ∀ C ∈ L, C < 7000 ∧ ¬ C / 1000 = 3) (hl : L.length ≤ 644) (p2 : ∀ i C, L[i]? = some C → ff i = fsS W (W * H) C) : ∀ (R P : List Nat) (m : Nat) (x1 x2 : Int64) (B : Nat → Int32) (h : sHp), L = P ++ R → m ≤ P.length → h[38]? = some (sO B x1 x2) → (∀ j, j ≠ 1 → B j = B0 j) → B0 6 = Int32.ofNat L.length → B 1 = Int32.ofNat m → h[40]? = some (.inl (1, 644, .inr (.inl ff))) → inN x2 (W * H) → scE h0 h → sGo none 103 d 46 [some (.ref 38), some (.ref 5), some (.ref tp), some (.long (toS (W * H) T n 0)), none, some (.long (toS (W * H) T n 1)), none, some (.int (Int32.ofNat P.length))] [] h (fun r h' => r = none ∧ scE h0 h' ∧ ∃ B', h'[38]? = some (sO B' (if fcN W (W * H) T n R m = 0 then Int64.ofNat 0 else fcX W (W * H) T n 0 R x1) (if fcN W (W * H) T n R m = 0 then Int64.ofNat 0 else fcX W (W * H) T n 1 R x2)) ∧ B' 1 = Int32.ofNat (fcN W (W * H) T n R m)) := by
  have hn := gdF_n g
  intro R
  induction R with
  | nil =>
    intro P m x1 x2 B h hL hm hS b0 b6 b1 h40 hx E
    rw [List.append_nil] at hL
    subst hL
    have ei := ofN_toInt (n := L.length) (by omega)
    have e6 : (B 6).toInt = ((L.length : Nat) : Int) := by rw [b0 6 (by decide), b6]; exact ei
    have em := ofN_toInt (n := m) (by omega)
    have e1 : (B 1).toInt = ((m : Nat) : Int) := by rw [b1]; exact em
    show sGo none 103 d 46 _ [] h (fun r h' => r = none ∧ scE h0 h' ∧ ∃ B', h'[38]? = some (sO B' (if m = 0 then Int64.ofNat 0 else x1) (if m = 0 then Int64.ofNat 0 else x2)) ∧ B' 1 = Int32.ofNat m)
    refine g_iload (i := 7) rfl rfl ?_
    refine g_aload_n (i := 0) rfl rfl ?_
    refine g_getfield (v := .int (B 6)) rfl hS (by decide) rfl ?_
    refine g_icmp_ge 140 rfl rfl (fun _ => ?_) (fun hc => absurd hc (by rw [i_le, e6, ei]; omega))
    refine g_aload_n (i := 0) rfl rfl ?_
    refine g_getfield (v := .int (B 1)) rfl hS (by decide) rfl ?_
    have k_2 : (0 : Int32).toInt = 0 := rfl
    refine g_if_ne 157 rfl rfl (fun c_1 => ?_) (fun c_1 => ?_)
    · skip
      rw [i_eq, e1, k_2] at c_1
      refine g_return rfl rfl ?_
      exact ⟨rfl, E, B, by rw [if_neg (show ¬ m = 0 by omega), if_neg (show ¬ m = 0 by omega)]; exact hS, b1⟩
    · skip
      rw [i_eq, e1, k_2] at c_1
      refine g_aload_n (i := 0) rfl rfl ?_
      refine g_lconst (n := 0) rfl ?_
      show sGo none 103 _ 149 [some (.ref 38), some (.ref 5), some (.ref tp), some (.long (toS (W * H) T n 0)), none, some (.long (toS (W * H) T n 1)), none, some (.int (Int32.ofNat L.length))] [.long (Int64.ofNat 0), .ref 38] _ _
      refine g_putfield (h1 := h.set 38 (sO B (Int64.ofNat 0) x2)) rfl hS (by decide) (Nat.le_of_ble_eq_true rfl) rfl rfl ?_
      have hS1 : (h.set 38 (sO B (Int64.ofNat 0) x2))[38]? = some (sO B (Int64.ofNat 0) x2) := s_set_eq hS
      refine g_aload_n (i := 0) rfl rfl ?_
      refine g_lconst (n := 0) rfl ?_
      show sGo none 103 _ 154 [some (.ref 38), some (.ref 5), some (.ref tp), some (.long (toS (W * H) T n 0)), none, some (.long (toS (W * H) T n 1)), none, some (.int (Int32.ofNat L.length))] [.long (Int64.ofNat 0), .ref 38] _ _
      refine g_putfield (h1 := h.set 38 (sO B (Int64.ofNat 0) (Int64.ofNat 0))) rfl hS1 (by decide) (Nat.le_of_ble_eq_true rfl) rfl (by rw [List.set_set]; rfl) ?_
      refine g_return rfl rfl ?_
      exact ⟨rfl, scE_set E (by decide), B, by rw [if_pos (show m = 0 by omega), if_pos (show m = 0 by omega)]; exact s_set_eq hS, b1⟩
  | cons C R ih =>
    intro P m x1 x2 B h hL hm hS b0 b6 b1 h40 hx E
    have hlen : L.length = P.length + (R.length + 1) := by rw [hL, List.length_append, List.length_cons]
    have ei := ofN_toInt (n := P.length) (by omega)
    have e6 : (B 6).toInt = ((L.length : Nat) : Int) := by rw [b0 6 (by decide), b6]; exact ofN_toInt (by omega)
    have hC := hk C (by rw [hL]; exact List.mem_append_right _ (List.mem_cons_self ..))
    have hat : L[P.length]? = some C := by rw [hL, List.getElem?_append_right (Nat.le_refl _), Nat.sub_self]; rfl
    have hff := p2 P.length C hat
    have fi := fit_iff2 (W := W) (sz := n) (T := T) hn.1 hC.2
    have hL2 : L = (P ++ [C]) ++ R := by rw [hL, List.append_assoc]; rfl
    have hP1 : (P ++ [C]).length = P.length + 1 := by rw [List.length_append]; rfl
    have e1 : (B 1).toInt = ((m : Nat) : Int) := by rw [b1]; exact ofN_toInt (by omega)
    refine g_iload (i := 7) rfl rfl ?_
    refine g_aload_n (i := 0) rfl rfl ?_
    refine g_getfield (v := .int (B 6)) rfl hS (by decide) rfl ?_
    refine g_icmp_ge 140 rfl rfl (fun hc => absurd hc (by rw [i_le, e6, ei]; omega)) (fun _ => ?_)
    refine g_lload_n (i := 3) rfl rfl ?_
    refine g_aload_n (i := 0) rfl rfl ?_
    refine g_getfield (v := .ref 40) rfl hS (by decide) rfl ?_
    refine g_iload (i := 7) rfl rfl ?_
    refine g_laload (n := 644) (f := ff) rfl h40 (i_in (by omega) (by omega)) ?_
    rw [i_nat ei, hff]
    refine g_ldc2_w (j := 18446744073709551615) rfl ?_
    refine g_lxor rfl ?_
    refine g_land rfl ?_
    refine g_lconst (n := 0) rfl ?_
    show sGo none 103 _ 69 [some (.ref 38), some (.ref 5), some (.ref tp), some (.long (toS (W * H) T n 0)), none, some (.long (toS (W * H) T n 1)), none, some (.int (Int32.ofNat P.length))] [.long (Int64.ofNat 0), .long ((toS (W * H) T n 0) &&& ((fsS W (W * H) C) ^^^ (Int64.ofNat 18446744073709551615)))] _ _
    refine g_lcmp rfl ?_
    refine g_if_ne 134 rfl rfl (fun c_1 => ?_) (fun c_1 => ?_)
    · skip
      rw [lc_eq] at c_1
      refine g_iinc (i := 7) (L1 := [some (.ref 38), some (.ref 5), some (.ref tp), some (.long (toS (W * H) T n 0)), none, some (.long (toS (W * H) T n 1)), none, some (.int ((Int32.ofNat P.length) + Int32.ofInt 1))]) rfl rfl rfl ?_
      rw [ofN_add (by omega)]
      refine g_goto 46 rfl rfl ?_
      have hfit : ¬ fitP W (W * H) C T n := fun z => c_1 (fi.mpr z).1
      rw [fcN_n hfit, fcX_n hfit, fcX_n hfit]
      have key := ih (P ++ [C]) m x1 x2 B h hL2 (by omega) hS b0 b6 b1 h40 hx E
      rw [hP1] at key
      exact key
    · skip
      rw [lc_eq] at c_1
      refine g_lload (i := 5) rfl rfl ?_
      refine g_aload_n (i := 0) rfl rfl ?_
      refine g_getfield (v := .ref 40) rfl hS (by decide) rfl ?_
      refine g_iload (i := 7) rfl rfl ?_
      refine g_laload (n := 644) (f := ff) rfl h40 (i_in (by omega) (by omega)) ?_
      rw [i_nat ei, hff]
      refine g_land rfl ?_
      refine g_lconst (n := 0) rfl ?_
      show sGo none 103 _ 84 [some (.ref 38), some (.ref 5), some (.ref tp), some (.long (toS (W * H) T n 0)), none, some (.long (toS (W * H) T n 1)), none, some (.int (Int32.ofNat P.length))] [.long (Int64.ofNat 0), .long ((toS (W * H) T n 1) &&& (fsS W (W * H) C))] _ _
      refine g_lcmp rfl ?_
      refine g_if_ne 134 rfl rfl (fun c_2 => ?_) (fun c_2 => ?_)
      · skip
        rw [lc_eq] at c_2
        refine g_iinc (i := 7) (L1 := [some (.ref 38), some (.ref 5), some (.ref tp), some (.long (toS (W * H) T n 0)), none, some (.long (toS (W * H) T n 1)), none, some (.int ((Int32.ofNat P.length) + Int32.ofInt 1))]) rfl rfl rfl ?_
        rw [ofN_add (by omega)]
        refine g_goto 46 rfl rfl ?_
        have hfit : ¬ fitP W (W * H) C T n := fun z => c_2 (fi.mpr z).2
        rw [fcN_n hfit, fcX_n hfit, fcX_n hfit]
        have key := ih (P ++ [C]) m x1 x2 B h hL2 (by omega) hS b0 b6 b1 h40 hx E
        rw [hP1] at key
        exact key
      · skip
        rw [lc_eq] at c_2
        refine g_aload_n (i := 0) rfl rfl ?_
        refine g_dup rfl rfl ?_
        refine g_getfield (v := .int (B 1)) rfl hS (by decide) rfl ?_
        refine g_iconst (n := 1) rfl ?_
        have k_3 : (Int32.ofInt 1).toInt = 1 := rfl
        refine g_iadd rfl ?_
        have t_4 : ((B 1) + (Int32.ofInt 1)).toInt = ((m + 1 : Nat) : Int) := by rw [i_add (by rw [e1, k_3]; omega) (by rw [e1, k_3]; omega), e1, k_3]; omega
        rw [b1, ofN_add (by omega)]
        refine g_putfield (h1 := h.set 38 (sO (upd B 1 (Int32.ofNat (m + 1))) x1 x2)) rfl hS (by decide) (Nat.le_of_ble_eq_true rfl) rfl rfl ?_
        have hS1 : (h.set 38 (sO (upd B 1 (Int32.ofNat (m + 1))) x1 x2))[38]? = some (sO (upd B 1 (Int32.ofNat (m + 1))) x1 x2) := s_set_eq hS
        refine g_aload_n (i := 0) rfl rfl ?_
        refine g_dup rfl rfl ?_
        refine g_getfield (v := .long x1) rfl hS1 (by decide) rfl ?_
        refine g_aload_n (i := 0) rfl rfl ?_
        refine g_getfield (v := .ref 40) rfl hS1 (by decide) rfl ?_
        refine g_iload (i := 7) rfl rfl ?_
        refine g_laload (n := 644) (f := ff) rfl (by rw [s_set_ne (by decide)]; exact h40) (i_in (by omega) (by omega)) ?_
        rw [i_nat ei, hff]
        refine g_land rfl ?_
        refine g_putfield (h1 := h.set 38 (sO (upd B 1 (Int32.ofNat (m + 1))) (x1 &&& fsS W (W * H) C) x2)) rfl hS1 (by decide) (Nat.le_of_ble_eq_true rfl) rfl (by rw [List.set_set]; rfl) ?_
        have hS2 : (h.set 38 (sO (upd B 1 (Int32.ofNat (m + 1))) (x1 &&& fsS W (W * H) C) x2))[38]? = some (sO (upd B 1 (Int32.ofNat (m + 1))) (x1 &&& fsS W (W * H) C) x2) := s_set_eq hS
        refine g_aload_n (i := 0) rfl rfl ?_
        refine g_dup rfl rfl ?_
        refine g_getfield (v := .long x2) rfl hS2 (by decide) rfl ?_
        refine g_aload_n (i := 0) rfl rfl ?_
        refine g_getfield (v := .ref 40) rfl hS2 (by decide) rfl ?_
        refine g_iload (i := 7) rfl rfl ?_
        refine g_laload (n := 644) (f := ff) rfl (by rw [s_set_ne (by decide)]; exact h40) (i_in (by omega) (by omega)) ?_
        rw [i_nat ei, hff]
        refine g_ldc2_w (j := 18446744073709551615) rfl ?_
        refine g_lxor rfl ?_
        refine g_land rfl ?_
        refine g_putfield (h1 := h.set 38 (sO (upd B 1 (Int32.ofNat (m + 1))) (x1 &&& fsS W (W * H) C) (x2 &&& (fsS W (W * H) C ^^^ lM1)))) rfl hS2 (by decide) (Nat.le_of_ble_eq_true rfl) rfl (by rw [List.set_set]; rfl) ?_
        refine g_iinc (i := 7) (L1 := [some (.ref 38), some (.ref 5), some (.ref tp), some (.long (toS (W * H) T n 0)), none, some (.long (toS (W * H) T n 1)), none, some (.int ((Int32.ofNat P.length) + Int32.ofInt 1))]) rfl rfl rfl ?_
        rw [ofN_add (by omega)]
        refine g_goto 46 rfl rfl ?_
        have hfit := fi.mp ⟨c_1, c_2⟩
        rw [fcN_y hfit, fcX_y hfit, fcX_y hfit, ← sdS_0 hn.1, ← sd1_of hn.1 hC.2 hx]
        have key := ih (P ++ [C]) (m + 1) (x1 &&& fsS W (W * H) C) (x2 &&& (fsS W (W * H) C ^^^ lM1)) (upd B 1 (Int32.ofNat (m + 1))) _ hL2 (by omega) (s_set_eq hS) (fun j hj => (u_ne hj).trans (b0 j hj)) b6 u_at (by rw [s_set_ne (by decide)]; exact h40) (inN_and hx) (scE_set E (by decide))
        rw [hP1] at key
        exact key
theorem s_findFitting {d : Nat} {h : sHp} {c : CF} {W H : Nat} {tp ep n : Nat} {ot : Int32} {el : Nat → Int64} {B : Nat → Int32} {S1 S2 : Int64} {fc : Nat → Int32} {ff : Nat → Int64} (hd : 7 ≤ d) (F : FC h 5 c) (g : gdF c W H) (ht : h[tp]? = some (.inr (7, [.int ot, .int (Int32.ofNat n), .ref ep]))) (he : h[ep]? = some (.inl (1, 100, .inr (.inl el)))) (hn1 : n ≤ 100) (hte : tp < 38 ∨ 40 < tp) (hS : h[38]? = some (sO B S1 S2)) (h39 : h[39]? = some (.inl (0, 644, .inl fc))) (h40 : h[40]? = some (.inl (1, 644, .inr (.inl ff)))) : sDo d 103 [.ref 38, .ref 5, .ref tp] h (fun r h' => r = none ∧ scE h h' ∧ ∃ B', h'[38]? = some (sO B' (if fcN W (W * H) (tx el n) n (lsT W H true true) 0 = 0 then Int64.ofNat 0 else fcX W (W * H) (tx el n) n 0 (lsT W H true true) (stO (fun _ => true) (W * H))) (if fcN W (W * H) (tx el n) n (lsT W H true true) 0 = 0 then Int64.ofNat 0 else fcX W (W * H) (tx el n) n 1 (lsT W H true true) (stO (fun _ => true) (W * H)))) ∧ B' 1 = Int32.ofNat (fcN W (W * H) (tx el n) n (lsT W H true true) 0)) := by
  have g2 := g.2.2.2.2.2.2.1
  have w8 := g.2.2.2.1
  have h8 := g.2.2.2.2.2.1
  have hn := gdF_n g
  refine sDo_of1 (nL := 8) (L := [some (.ref 38), some (.ref 5), some (.ref tp), none, none, none, none, none]) (by omega) rfl rfl ?_
  refine g_aload_n (i := 1) rfl rfl ?_
  refine g_aload_n (i := 2) rfl rfl ?_
  refine g_iconst (n := 0) rfl ?_
  refine g_virt2 (Qc := fun r h' => h' = h ∧ r = some (.long (toS (W * H) (tx el n) n 0))) rfl (by decide) rfl F.1 rfl (Nat.le_of_ble_eq_true rfl) (s_toldBy (v := (Int32.ofInt 0)) (by omega) F g ht he hn1) (fun r h hq9 => ?_)
  obtain ⟨rfl, rfl⟩ := hq9
  refine g_lstore_n (i := 3) (L1 := [some (.ref 38), some (.ref 5), some (.ref tp), some (.long (toS (W * H) (tx el n) n 0)), none, none, none, none]) rfl (Nat.le_of_ble_eq_true rfl) rfl ?_
  refine g_aload_n (i := 1) rfl rfl ?_
  refine g_aload_n (i := 2) rfl rfl ?_
  refine g_iconst (n := 1) rfl ?_
  refine g_virt2 (Qc := fun r h' => h' = h ∧ r = some (.long (toS (W * H) (tx el n) n 1))) rfl (by decide) rfl F.1 rfl (Nat.le_of_ble_eq_true rfl) (s_toldBy (v := (Int32.ofInt 1)) (by omega) F g ht he hn1) (fun r h hq9 => ?_)
  obtain ⟨rfl, rfl⟩ := hq9
  refine g_lstore (i := 5) (L1 := [some (.ref 38), some (.ref 5), some (.ref tp), some (.long (toS (W * H) (tx el n) n 0)), none, some (.long (toS (W * H) (tx el n) n 1)), none, none]) rfl (Nat.le_of_ble_eq_true rfl) rfl ?_
  refine g_aload_n (i := 0) rfl rfl ?_
  refine g_iconst (n := 0) rfl ?_
  refine g_putfield (h1 := h.set 38 (sO (upd B 1 (Int32.ofInt 0)) S1 S2)) rfl hS (by decide) (Nat.le_of_ble_eq_true rfl) rfl rfl ?_
  have hA : (h.set 38 (sO (upd B 1 (Int32.ofInt 0)) S1 S2))[38]? = some (sO (upd B 1 (Int32.ofInt 0)) S1 S2) := s_set_eq hS
  have FhA := FC_out (q := 38) (x := sO (upd B 1 (Int32.ofInt 0)) S1 S2) F (by omega)
  refine g_aload_n (i := 0) rfl rfl ?_
  refine g_aload_n (i := 1) rfl rfl ?_
  refine g_getfield (v := .long (c.2.1 2)) rfl FhA.1 (by decide) rfl ?_
  refine g_putfield (h1 := h.set 38 (sO (upd B 1 (Int32.ofInt 0)) (c.2.1 2) S2)) rfl hA (by decide) (Nat.le_of_ble_eq_true rfl) rfl (by rw [List.set_set]; rfl) ?_
  have hB : (h.set 38 (sO (upd B 1 (Int32.ofInt 0)) (c.2.1 2) S2))[38]? = some (sO (upd B 1 (Int32.ofInt 0)) (c.2.1 2) S2) := s_set_eq hS
  have FhB := FC_out (q := 38) (x := sO (upd B 1 (Int32.ofInt 0)) (c.2.1 2) S2) F (by omega)
  refine g_aload_n (i := 0) rfl rfl ?_
  refine g_aload_n (i := 1) rfl rfl ?_
  refine g_getfield (v := .long (c.2.1 2)) rfl FhB.1 (by decide) rfl ?_
  refine g_putfield (h1 := h.set 38 (sO (upd B 1 (Int32.ofInt 0)) (c.2.1 2) (c.2.1 2))) rfl hB (by decide) (Nat.le_of_ble_eq_true rfl) rfl (by rw [List.set_set]; rfl) ?_
  have hC : (h.set 38 (sO (upd B 1 (Int32.ofInt 0)) (c.2.1 2) (c.2.1 2)))[38]? = some (sO (upd B 1 (Int32.ofInt 0)) (c.2.1 2) (c.2.1 2)) := s_set_eq hS
  have FhC := FC_out (q := 38) (x := sO (upd B 1 (Int32.ofInt 0)) (c.2.1 2) (c.2.1 2)) F (by omega)
  refine g_aload_n (i := 0) rfl rfl ?_
  refine g_aload_n (i := 1) rfl rfl ?_
  refine g_iconst (n := 1) rfl ?_
  refine g_iconst (n := 1) rfl ?_
  have hls := s_listCuts (d := d - 1) (x2 := Int32.ofInt 1) (x3 := Int32.ofInt 1) (fc := fc) (ff := ff) true true (by omega) FhC g hC (by rw [s_set_ne (by decide)]; exact h39) (by rw [s_set_ne (by decide)]; exact h40) (by decide) (by decide)
  refine g_virt3 rfl (by decide) rfl hC rfl (Nat.le_of_ble_eq_true rfl) hls (fun r h2 hq => ?_)
  obtain ⟨rfl, ⟨B2, fc2, ff2, hS2, bb, b6, g39, g40, p1, p2⟩, E2⟩ := hq
  refine g_iconst (n := 0) rfl ?_
  refine g_istore (i := 7) (L1 := [some (.ref 38), some (.ref 5), some (.ref tp), some (.long (toS (W * H) (tx el n) n 0)), none, some (.long (toS (W * H) (tx el n) n 1)), none, some (.int (Int32.ofInt 0))]) rfl (Nat.le_of_ble_eq_true rfl) rfl ?_
  have EE : scE h h2 := scE_tr (scE_set scE_rfl (by decide)) E2
  have key := s_ff_go (d := d - 1) (h0 := h) (T := tx el n) (n := n) (tp := tp) (B0 := B2) (by omega) g (ls_k w8 h8) (ls_len w8 h8) p2 (lsT W H true true) [] 0 (c.2.1 2) (c.2.1 2) B2 h2 rfl (by decide) hS2 (fun _ _ => rfl) b6 ((bb 1 (by decide)).trans u_at) g40 (by rw [g2]; exact inN_all hn.1) EE
  rw [g2] at key
  exact key
end
section
/-! ===== two fields under a relation, now and kept ===== -/
def kC (h : sHp) (c ck : CF) (ik tf : Int32) : Prop := FC h 5 c ∧ FC h 16 ck ∧ h[0]? = some (cO ik tf) ∧ fxR h 27
def kM (h : sHp) (m : MF) (g : Nat → Int32) : Prop := MC h m ∧ h[75]? = some (.inl (0, 180, .inl g))
def bFL (Rel : CF → MF → Prop) (h : sHp) : Prop := ∃ (c ck : CF) (m : MF) (g : Nat → Int32) (ik tf : Int32), kC h c ck ik tf ∧ kM h m g ∧ m.1 37 = ik ∧ Rel c m ∧ (¬ ik = 0 → ∀ m', Rel ck (mfBack m' g))
theorem FC_tr {h h' : sHp} {p : Nat} {c : CF} (F : FC h p c) (e : ∀ q x, p ≤ q → q ≤ p + 10 → h[q]? = some x → h'[q]? = some x) : FC h' p c := by
  obtain ⟨a0, a1, a2, ⟨f, a3, a4⟩, a5, a6, a7⟩ := F
  exact ⟨e _ _ (by omega) (by omega) a0, e _ _ (by omega) (by omega) a1, e _ _ (by omega) (by omega) a2, ⟨f, e _ _ (by omega) (by omega) a3, a4⟩, fun k hk => e _ _ (by omega) (by omega) (a5 k hk), e _ _ (by omega) (by omega) a6, e _ _ (by omega) (by omega) a7⟩
theorem MC_tr {h h' : sHp} {m : MF} (M : MC h m) (e : ∀ q x, 60 ≤ q → q ≤ 66 → q ≠ 61 → h[q]? = some x → h'[q]? = some x) : MC h' m := by
  obtain ⟨a0, a1, a2, a3, a4, a5⟩ := M
  exact ⟨e _ _ (by decide) (by decide) (by decide) a0, e _ _ (by decide) (by decide) (by decide) a1, e _ _ (by decide) (by decide) (by decide) a2, e _ _ (by decide) (by decide) (by decide) a3, e _ _ (by decide) (by decide) (by decide) a4, e _ _ (by decide) (by decide) (by decide) a5⟩
theorem fx_tr {h h' : sHp} {p : Nat} (F : fxR h p) (e : ∀ q x, p ≤ q → q ≤ p + 10 → h[q]? = some x → h'[q]? = some x) : fxR h' p := by
  obtain ⟨f, a, b⟩ := F
  exact ⟨f, e _ _ (by omega) (by omega) a, b⟩
theorem kC_tr {h h' : sHp} {c ck : CF} {ik tf : Int32} (K : kC h c ck ik tf) (e : ∀ q x, q < 38 → h[q]? = some x → h'[q]? = some x) : kC h' c ck ik tf :=
  ⟨FC_tr K.1 (fun q x h1 h2 => e q x (by omega)), FC_tr K.2.1 (fun q x h1 h2 => e q x (by omega)), e _ _ (by decide) K.2.2.1, fx_tr K.2.2.2 (fun q x h1 h2 => e q x (by omega))⟩
theorem kM_tr {h h' : sHp} {m : MF} {g : Nat → Int32} (K : kM h m g) (e : ∀ q x, 60 ≤ q → q ≠ 61 → h[q]? = some x → h'[q]? = some x) : kM h' m g :=
  ⟨MC_tr K.1 (fun q x h1 h2 h3 => e q x h1 h3), e _ _ (by decide) (by decide) K.2⟩
theorem kM_43 {h : sHp} {m : MF} {g : Nat → Int32} {c : va_E} (K : kM h m g) : kM (h.set 43 c) m g := kM_tr K (fun q x h1 _ hx => by rw [s_set_ne (by omega)]; exact hx)
theorem kC_43 {h : sHp} {c ck : CF} {ik tf : Int32} {x : va_E} (K : kC h c ck ik tf) : kC (h.set 43 x) c ck ik tf := kC_tr K (fun q x h1 hx => by rw [s_set_ne (by omega)]; exact hx)
theorem kM_61 {h : sHp} {m : MF} {g : Nat → Int32} {c : va_E} (K : kM h m g) : kM (h.set 61 c) m g := kM_tr K (fun q x h1 h2 hx => by rw [s_set_ne (by omega)]; exact hx)
theorem kC_61 {h : sHp} {c ck : CF} {ik tf : Int32} {x : va_E} (K : kC h c ck ik tf) : kC (h.set 61 x) c ck ik tf := kC_tr K (fun q x h1 hx => by rw [s_set_ne (by omega)]; exact hx)
theorem kM_fE {h h' : sHp} {m : MF} {g : Nat → Int32} (K : kM h m g) (E : fE 5 h h') : kM h' m g := kM_tr K (fun q x h1 _ hx => (E.2 q (by omega)).trans hx)
theorem kC_5 {h h' : sHp} {c c1 ck : CF} {ik tf : Int32} (K : kC h c ck ik tf) (F : FC h' 5 c1) (E : fE 5 h h') : kC h' c1 ck ik tf :=
  ⟨F, FC_tr K.2.1 (fun q x h1 h2 hx => (E.2 q (by omega)).trans hx), (E.2 0 (by decide)).trans K.2.2.1, fx_tr K.2.2.2 (fun q x h1 h2 hx => (E.2 q (by omega)).trans hx)⟩
theorem kC_mE {h h' : sHp} {c ck : CF} {ik tf : Int32} (K : kC h c ck ik tf) (E : mE h h') : kC h' c ck ik tf := kC_tr K (fun q x h1 hx => (E.2 q (by omega) (by omega)).trans hx)
theorem fb_of {h : sHp} {p : Nat} {c : CF} (hH : bH h) (F : FC h p c) (hp : p = 5 ∨ p = 16) : fb01 c := by
  rcases hp with rfl | rfl
  · obtain ⟨f, a, b⟩ := bA60B hH (p := 14) (by decide) rfl
    have a' : h[14]? = some (.inl (2, 5, .inl c.2.2.2.2.2.1)) := F.2.2.2.2.2.1
    rw [a'] at a
    cases a
    exact fun k hk => i_01 (b k hk).1 (b k hk).2
  · obtain ⟨f, a, b⟩ := bA60B hH (p := 25) (by decide) rfl
    have a' : h[25]? = some (.inl (2, 5, .inl c.2.2.2.2.2.1)) := F.2.2.2.2.2.1
    rw [a'] at a
    cases a
    exact fun k hk => i_01 (b k hk).1 (b k hk).2
/-! ===== frames ===== -/
def KBc : List Nat := (List.range 11).map (fun j => 0 * 64 + j) ++ ((List.range 17).map (fun j => 5 * 64 + j) ++ ((List.range 17).map (fun j => 16 * 64 + j) ++ [6 * 64, 7 * 64, 8 * 64, 14 * 64, 17 * 64, 18 * 64, 19 * 64, 25 * 64, 26 * 64, 30 * 64, 82 * 64, 83 * 64]))
def KBm : List Nat := NKm ++ [62 * 64, 64 * 64, 65 * 64, 66 * 64]
theorem KBc_0 {j : Nat} (hj : j < 11) : 0 * 64 + j ∈ KBc := List.mem_append_left _ (List.mem_map.mpr ⟨j, List.mem_range.mpr hj, rfl⟩)
theorem KBc_5 {j : Nat} (hj : j < 17) : 5 * 64 + j ∈ KBc := List.mem_append_right _ (List.mem_append_left _ (List.mem_map.mpr ⟨j, List.mem_range.mpr hj, rfl⟩))
theorem KBc_16 {j : Nat} (hj : j < 17) : 16 * 64 + j ∈ KBc := List.mem_append_right _ (List.mem_append_right _ (List.mem_append_left _ (List.mem_map.mpr ⟨j, List.mem_range.mpr hj, rfl⟩)))
theorem FC_frO {W gg p K : Nat} {h h' : sHp} {I : Nat → Int32} {G : Nat → Int64} {so : Nat → Int64} {sh : Nat → Int32} {wo : Nat → Nat → Int32} {fo : Nat → Int32} {ow ow' : Nat → Int64} (hp : (p = 5 ∧ K = 82) ∨ (p = 16 ∧ K = 83)) (a : bFr W gg h h') (h0 : ∀ j, j < 17 → W.testBit (p * 64 + j) = false) (hj : ∀ j, j = 1 ∨ j = 2 ∨ j = 3 ∨ j = 9 → W.testBit ((p + j) * 64) = false) (hw : W.testBit (K * 64) = false) (h10 : h'[p + 10]? = some (.inl (1, 7, .inr (.inl ow')))) (F : FC h p (I, G, so, sh, wo, fo, ow)) : FC h' p (I, G, so, sh, wo, fo, ow') := by
  obtain ⟨a0, a1, a2, ⟨f, a3, a4⟩, a5, a6, a7⟩ := F
  rcases hp with ⟨rfl, rfl⟩ | ⟨rfl, rfl⟩
  · refine ⟨bFr_obj (K := 5) (n := 17) a a0 rfl rfl h0, bFr_arr a a1 (by decide) rfl (hj 1 (by decide)), bFr_arr a a2 (by decide) rfl (hj 2 (by decide)), ⟨f, bFr_arr a a3 (by decide) rfl (hj 3 (by decide)), a4⟩, fun k hk => ?_, bFr_arr a a6 (by decide) rfl (hj 9 (by decide)), h10⟩
    match k, hk with
    | 0, _ => exact bFr_arr (p := 9) (K := 82) a (a5 0 (by decide)) (by decide) rfl hw
    | 1, _ => exact bFr_arr (p := 10) (K := 82) a (a5 1 (by decide)) (by decide) rfl hw
    | 2, _ => exact bFr_arr (p := 11) (K := 82) a (a5 2 (by decide)) (by decide) rfl hw
    | 3, _ => exact bFr_arr (p := 12) (K := 82) a (a5 3 (by decide)) (by decide) rfl hw
    | 4, _ => exact bFr_arr (p := 13) (K := 82) a (a5 4 (by decide)) (by decide) rfl hw
    | k + 5, hk => exact absurd hk (by omega)
  · refine ⟨bFr_obj (K := 16) (n := 17) a a0 rfl rfl h0, bFr_arr a a1 (by decide) rfl (hj 1 (by decide)), bFr_arr a a2 (by decide) rfl (hj 2 (by decide)), ⟨f, bFr_arr a a3 (by decide) rfl (hj 3 (by decide)), a4⟩, fun k hk => ?_, bFr_arr a a6 (by decide) rfl (hj 9 (by decide)), h10⟩
    match k, hk with
    | 0, _ => exact bFr_arr (p := 20) (K := 83) a (a5 0 (by decide)) (by decide) rfl hw
    | 1, _ => exact bFr_arr (p := 21) (K := 83) a (a5 1 (by decide)) (by decide) rfl hw
    | 2, _ => exact bFr_arr (p := 22) (K := 83) a (a5 2 (by decide)) (by decide) rfl hw
    | 3, _ => exact bFr_arr (p := 23) (K := 83) a (a5 3 (by decide)) (by decide) rfl hw
    | 4, _ => exact bFr_arr (p := 24) (K := 83) a (a5 4 (by decide)) (by decide) rfl hw
    | k + 5, hk => exact absurd hk (by omega)
/-- the class's part but for the owners now -/
theorem kC_frO {W gg : Nat} {h h' : sHp} {c ck : CF} {ik tf : Int32} {ow' : Nat → Int64} (a : bFr W gg h h') (hW : ∀ b ∈ KBc, W.testBit b = false) (h15 : h'[15]? = some (.inl (1, 7, .inr (.inl ow')))) (q : kC h c ck ik tf) : kC h' (c.1, c.2.1, c.2.2.1, c.2.2.2.1, c.2.2.2.2.1, c.2.2.2.2.2.1, ow') ck ik tf := by
  obtain ⟨F, Fk, q0, ⟨f, f1, f2⟩⟩ := q
  obtain ⟨I, G, so, sh, wo, fo, ow⟩ := c
  obtain ⟨Ik, Gk, sok, shk, wok, fok, owk⟩ := ck
  refine ⟨FC_frO (Or.inl ⟨rfl, rfl⟩) a (fun j hj => hW _ (KBc_5 hj)) (fun j hj => ?_) (hW _ (by decide)) h15 F, FC_frO (Or.inr ⟨rfl, rfl⟩) a (fun j hj => hW _ (KBc_16 hj)) (fun j hj => ?_) (hW _ (by decide)) (bFr_arr a Fk.2.2.2.2.2.2 (by decide) rfl (hW _ (by decide))) Fk, bFr_obj (K := 0) (n := 11) a q0 rfl rfl (fun j hj => hW _ (KBc_0 hj)), ⟨f, bFr_arr a f1 (by decide) rfl (hW _ (by decide)), f2⟩⟩
  · rcases hj with rfl | rfl | rfl | rfl
    · exact hW (6 * 64) (by decide)
    · exact hW (7 * 64) (by decide)
    · exact hW (8 * 64) (by decide)
    · exact hW (14 * 64) (by decide)
  · rcases hj with rfl | rfl | rfl | rfl
    · exact hW (17 * 64) (by decide)
    · exact hW (18 * 64) (by decide)
    · exact hW (19 * 64) (by decide)
    · exact hW (25 * 64) (by decide)
theorem kC_fr {W gg : Nat} {h h' : sHp} {c ck : CF} {ik tf : Int32} (a : bFr W gg h h') (hW : ∀ b ∈ KBc, W.testBit b = false) (h15 : W.testBit (15 * 64) = false) (q : kC h c ck ik tf) : kC h' c ck ik tf :=
  kC_frO a hW (bFr_arr a q.1.2.2.2.2.2.2 (by decide) rfl h15) q
/-- the reference's part but for the owners -/
theorem kM_frO {W gg : Nat} {h h' : sHp} {m : MF} {g ow' : Nat → Int32} (hH' : bH h') (a : bFr W gg h h') (hW : ∀ b ∈ KBm, W.testBit b = false) (h63 : h'[63]? = some (.inl (0, 64, .inl ow'))) (q : kM h m g) : ∃ J', kM h' (J', m.2.1, ow', m.2.2.2) g ∧ (∀ j, j < 7 → J' j = m.1 j) ∧ J' 37 = m.1 37 := by
  obtain ⟨M, g75⟩ := q
  obtain ⟨⟨J', b1, b2, b3⟩, b4⟩ := nkM_fr (J := m.1) (g := g) hH' a (fun b hb => hW b (List.mem_append_left _ hb)) ⟨⟨m.1, M.1, fun _ _ => rfl, rfl⟩, g75⟩
  have mm : ∀ b ∈ [62 * 64, 64 * 64, 65 * 64, 66 * 64], W.testBit b = false := fun b hb => hW b (List.mem_append_right _ hb)
  exact ⟨J', ⟨⟨b1, bFr_arr a M.2.1 (by decide) rfl (mm _ (by decide)), h63, bFr_arr a M.2.2.2.1 (by decide) rfl (mm _ (by decide)), bFr_arr a M.2.2.2.2.1 (by decide) rfl (mm _ (by decide)), bFr_arr a M.2.2.2.2.2 (by decide) rfl (mm _ (by decide))⟩, b4⟩, b2, b3⟩
/-- a relation that says nothing of owners -/
def noOw (Rel : CF → MF → Prop) : Prop := ∀ (c : CF) (m : MF) (o1 : Nat → Int64) (o2 : Nat → Int32), Rel c m → Rel (c.1, c.2.1, c.2.2.1, c.2.2.2.1, c.2.2.2.2.1, c.2.2.2.2.2.1, o1) (m.1, m.2.1, o2, m.2.2.2)
theorem bFL_frO {Rel : CF → MF → Prop} (ok : relOk Rel) (no : noOw Rel) {W gg : Nat} {h h' : sHp} (hH' : bH h') (a : bFr W gg h h') (hc : ∀ b ∈ KBc, W.testBit b = false) (hm : ∀ b ∈ KBm, W.testBit b = false) (q : bFL Rel h) : bFL Rel h' := by
  obtain ⟨c, ck, m, g, ik, tf, kc, km, ej, rl, rk⟩ := q
  obtain ⟨ow, h15⟩ := bA60L hH' (p := 15) (by decide) rfl
  obtain ⟨ow', h63, -, -⟩ := bA60 hH' (p := 63) (by decide) rfl
  obtain ⟨J', km', eJ, e37⟩ := kM_frO hH' a hm h63 km
  exact ⟨_, ck, _, g, ik, tf, kC_frO a hc h15 kc, km', e37.trans ej, ok.1 _ _ _ (no c m ow ow' rl) ⟨eJ, rfl⟩, rk⟩
theorem bFL_fr {Rel : CF → MF → Prop} (ok : relOk Rel) {W gg : Nat} {h h' : sHp} (hH' : bH h') (a : bFr W gg h h') (hc : ∀ b ∈ KBc, W.testBit b = false) (h15 : W.testBit (15 * 64) = false) (hm : ∀ b ∈ KBm, W.testBit b = false) (h63 : W.testBit (63 * 64) = false) (q : bFL Rel h) : bFL Rel h' := by
  obtain ⟨c, ck, m, g, ik, tf, kc, km, ej, rl, rk⟩ := q
  obtain ⟨J', km', eJ, e37⟩ := kM_frO hH' a hm (bFr_arr a km.1.2.2.1 (by decide) rfl h63) km
  exact ⟨c, ck, _, g, ik, tf, kC_fr a hc h15 kc, km', e37.trans ej, ok.1 _ _ _ rl ⟨eJ, rfl⟩, rk⟩
theorem pk_size {Rel : CF → MF → Prop} (ok : relOk Rel) (x : Int32) (y : Int32) : pairR (bFL Rel) 124 204 [.int x, .int y] := pr_mk (c1 := cn_X11_size_0) (c2 := cn_X12_size_0) ch_X11_size_0 ch_X12_size_0 (by decide +kernel) (by decide +kernel) (by decide +kernel) (by decide +kernel) rfl rfl (fun h hH => ⟨bt0 hH, vI0 x, vI0 y, trivial⟩) (fun h hH => ⟨bt60 hH, vI0 x, vI0 y, trivial⟩) (fun h hH hR => by
  obtain ⟨c, ck, m, g, ik, tf, kc, km, ej, rl, rk⟩ := hR
  have F := kc.1
  have q0 := kc.2.2.1
  obtain ⟨Rc, hRc⟩ := RA_of hH (p := 43) (Or.inl rfl)
  obtain ⟨s, sI, sJ, gF, gM⟩ := RN_sg (ok.2.2.2.2.1 _ _ rl)
  refine sDo_mono (s_size11 (d := 10) (by omega) q0 hRc F) (fun r1 h1 q hH1 fr1 => ?_)
  have okE : okSz x y ↔ (2 ≤ x.toInt ∧ x.toInt ≤ 8 ∧ 2 ≤ y.toInt ∧ y.toInt ≤ 8) := Iff.rfl
  rcases q with ⟨k, rfl, F1, E1⟩ | ⟨k, rfl, rfl⟩
  · have km1 := kM_fE km E1
    refine sDo_mono (s_size12 (x := x) (y := y) hH1 km1.1) (fun r2 h2 p hH2 fr2 => ?_)
    rcases p with ⟨-, rfl, M2⟩ | ⟨k2, -⟩
    · have nc := kC_fr fr2 (by decide +kernel) (by decide +kernel) (kC_5 kc F1 E1)
      rw [okE] at k
      obtain ⟨X, hX⟩ : ∃ X : Nat, x.toInt = X := ⟨x.toInt.toNat, by omega⟩
      obtain ⟨Y, hY⟩ : ∃ Y : Nat, y.toInt = Y := ⟨y.toInt.toNat, by omega⟩
      have ex : x = Int32.ofNat X := Int32.toInt_inj.mp (by rw [hX, ofN_toInt (by omega)])
      have ey : y = Int32.ofNat Y := Int32.toInt_inj.mp (by rw [hY, ofN_toInt (by omega)])
      rw [ex, ey] at nc M2
      exact ⟨⟨_, ck, _, g, ik, tf, nc, ⟨M2, M75 fr2 km1.2 (by decide +kernel)⟩, ej, ok.2.1 _ _ s (0, X, Y, 0) rl sI sJ ⟨by omega, by omega, by omega, by omega⟩, rk⟩, _, rfl, rfl⟩
    · exact absurd k k2
  · have km1 := kM_43 (c := rFc (bump Rc 6)) km
    refine sDo_mono (s_size12 (x := x) (y := y) hH1 km1.1) (fun r2 h2 p hH2 fr2 => ?_)
    rcases p with ⟨k2, -⟩ | ⟨-, rfl, M2⟩
    · exact absurd k2 k
    · exact ⟨⟨c, ck, m, g, ik, tf, kC_fr fr2 (by decide +kernel) (by decide +kernel) (kC_43 kc), ⟨M2, M75 fr2 km1.2 (by decide +kernel)⟩, ej, rl, rk⟩, _, rfl, rfl⟩)
theorem pk_place {Rel : CF → MF → Prop} (ok : relOk Rel) (x : Int32) (v : Int32) : pairR (bFL Rel) 126 206 [.int x, .int v] := pr_mk (c1 := cn_X11_place_0) (c2 := cn_X12_place_0) ch_X11_place_0 ch_X12_place_0 (by decide +kernel) (by decide +kernel) (by decide +kernel) (by decide +kernel) rfl rfl (fun h hH => ⟨bt0 hH, vI0 x, vI0 v, trivial⟩) (fun h hH => ⟨bt60 hH, vI0 x, vI0 v, trivial⟩) (fun h hH hR => by
  obtain ⟨c, ck, m, g, ik, tf, kc, km, ej, rl, rk⟩ := hR
  have F := kc.1
  have q0 := kc.2.2.1
  obtain ⟨Rc, hRc⟩ := RA_of hH (p := 43) (Or.inl rfl)
  obtain ⟨s, sI, sJ, gF, gM⟩ := RN_sg (ok.2.2.2.2.1 _ _ rl)
  refine sDo_mono (s_place11 (d := 10) (x := x) (v := v) (by omega) q0 hRc F gF) (fun r1 h1 q hH1 fr1 => ?_)
  obtain ⟨Rm, hRm⟩ := RA_of hH1 (p := 61) (Or.inr rfl)
  rcases q with ⟨K, hK, hx, k, rfl, rfl⟩ | ⟨k, rfl, rfl⟩
  · have F1 := FC_0 (I := upd c.1 (7 + K) v) (G := c.2.1) F
    have E1 : fE 5 h (h.set 5 (fO 5 (upd c.1 (7 + K) v) c.2.1)) := fE_set fE_rfl (by omega) (by omega)
    have km1 := kM_fE km E1
    refine sDo_mono (s_place12 (d := 10) (x := x) (v := v) (by omega) km1.1 hRm gM) (fun r2 h2 p hH2 fr2 => ?_)
    rcases p with ⟨K2, hK2, hx2, -, rfl, rfl⟩ | ⟨k2, -⟩
    · have eK : K2 = K := by omega
      subst eK
      have nc := kC_mE (kC_5 kc F1 E1) (mE_set (q := 60) (x := mO (upd m.1 (2 + K2) v)) mE_rfl (by decide))
      have M2 := MC_0 (f := upd m.1 (2 + K2) v) km1.1
      have g2 : (List.set (List.set h 5 (fO 5 (upd c.1 (7 + K2) v) c.2.1)) 60 (mO (upd m.1 (2 + K2) v)))[75]? = some (.inl (0, 180, .inl g)) := by rw [s_set_ne (by decide)]; exact km1.2
      rw [hx2] at k
      have rl2 := ok.2.2.2.2.2 _ _ s K2 v rl sI hK k
      obtain ⟨W', H', N', -, -, -, -, -, -, mk⟩ := ok.2.2.2.2.1 _ _ rl
      have ev : c.1 (7 + K2) = m.1 (2 + K2) := mk K2 hK
      refine ⟨⟨_, ck, _, g, ik, tf, nc, ⟨M2, g2⟩, (u_ne (by omega)).trans ej, rl2, rk⟩, _, rfl, ?_⟩
      exact congrArg (fun z => some (Value.int z)) ev.symm
    · exact absurd k k2
  · refine sDo_mono (s_place12 (d := 10) (x := x) (v := v) (by omega) (kM_43 km).1 hRm gM) (fun r2 h2 p hH2 fr2 => ?_)
    rcases p with ⟨-, -, -, k2, -⟩ | ⟨-, rfl, rfl⟩
    · exact absurd k2 k
    · exact ⟨⟨c, ck, m, g, ik, tf, kC_61 (kC_43 kc), kM_61 (kM_43 km), ej, rl, rk⟩, _, rfl, rfl⟩)
theorem pk_heir {Rel : CF → MF → Prop} (ok : relOk Rel) (x : Int32) : pairR (bFL Rel) 127 207 [.int x] := pr_mk (c1 := cn_X11_heir_0) (c2 := cn_X12_heir_0) ch_X11_heir_0 ch_X12_heir_0 (by decide +kernel) (by decide +kernel) (by decide +kernel) (by decide +kernel) rfl rfl (fun h hH => ⟨bt0 hH, vI0 x, trivial⟩) (fun h hH => ⟨bt60 hH, vI0 x, trivial⟩) (fun h hH hR => by
  obtain ⟨c, ck, m, g, ik, tf, kc, km, ej, rl, rk⟩ := hR
  have F := kc.1
  have q0 := kc.2.2.1
  obtain ⟨Rc, hRc⟩ := RA_of hH (p := 43) (Or.inl rfl)
  obtain ⟨s, sI, sJ, gF, gM⟩ := RN_sg (ok.2.2.2.2.1 _ _ rl)
  refine sDo_mono (s_heir11 (d := 10) (x := x) (N := s.2.2) (by omega) q0 hRc F sI.2.2.1 sI.2.2.2.2.2.2.2) (fun r1 h1 q hH1 fr1 => ?_)
  obtain ⟨Rm, hRm⟩ := RA_of hH1 (p := 61) (Or.inr rfl)
  rcases q with ⟨k, k1, rfl, F1, E1⟩ | ⟨k, k1, rfl, rfl⟩ | ⟨k, rfl, rfl⟩
  · have km1 := kM_fE km E1
    refine sDo_mono (s_heir12 (d := 10) (x := x) (N := s.2.2) (by omega) km1.1 hRm sJ.2.2.1 sJ.2.2.2.2.2.2.2) (fun r2 h2 p hH2 fr2 => ?_)
    rcases p with ⟨-, -, rfl, M2, E2⟩ | ⟨-, k2, -⟩ | ⟨k2, -⟩
    · obtain ⟨X, hX⟩ : ∃ X : Nat, x.toInt = X := ⟨x.toInt.toNat, by omega⟩
      have ex : x = Int32.ofNat X := Int32.toInt_inj.mp (by rw [hX, ofN_toInt (by omega)])
      have eN := ofN_toInt (n := s.2.2) (by omega)
      have e1 : (c.1 11).toNatClampNeg = s.2.2 := by rw [sI.2.2.1]; exact i_nat eN
      have e2 : (m.1 6).toNatClampNeg = s.2.2 := by rw [sJ.2.2.1]; exact i_nat eN
      have rl2 : Rel (cfHeir (c.1 11).toNatClampNeg (Int32.ofNat X) c) (mfHeir (m.1 6).toNatClampNeg (Int32.ofNat X) m) := ok.2.1 _ _ s (3, X, 0, 0) rl sI sJ ⟨by omega, by omega, k1⟩
      rw [e1, e2, ← ex] at rl2
      exact ⟨⟨_, ck, _, g, ik, tf, kC_mE (kC_5 kc F1 E1) E2, ⟨M2, (E2.2 75 (by decide) (by decide)).trans km1.2⟩, ej, rl2, rk⟩, _, rfl, rfl⟩
    · omega
    · exact absurd k k2
  · refine sDo_mono (s_heir12 (d := 10) (x := x) (N := s.2.2) (by omega) (kM_43 km).1 hRm sJ.2.2.1 sJ.2.2.2.2.2.2.2) (fun r2 h2 p hH2 fr2 => ?_)
    rcases p with ⟨-, k2, -⟩ | ⟨-, -, rfl, rfl⟩ | ⟨k2, -⟩
    · omega
    · exact ⟨⟨c, ck, m, g, ik, tf, kC_61 (kC_43 kc), kM_61 (kM_43 km), ej, rl, rk⟩, _, rfl, rfl⟩
    · exact absurd k k2
  · refine sDo_mono (s_heir12 (d := 10) (x := x) (N := s.2.2) (by omega) (kM_43 km).1 hRm sJ.2.2.1 sJ.2.2.2.2.2.2.2) (fun r2 h2 p hH2 fr2 => ?_)
    rcases p with ⟨k2, -⟩ | ⟨k2, -⟩ | ⟨-, rfl, rfl⟩
    · exact absurd k2 k
    · exact absurd k2 k
    · exact ⟨⟨c, ck, m, g, ik, tf, kC_61 (kC_43 kc), kM_61 (kM_43 km), ej, rl, rk⟩, _, rfl, rfl⟩)
theorem pk_image {Rel : CF → MF → Prop} (ok : relOk Rel) : pairR (bFL Rel) 154 254 [] := pr_mk (c1 := cn_X11_image_0) (c2 := cn_X12_image_0) ch_X11_image_0 ch_X12_image_0 (by decide +kernel) (by decide +kernel) (by decide +kernel) (by decide +kernel) rfl rfl (fun h hH => ⟨bt0 hH, trivial⟩) (fun h hH => ⟨bt60 hH, trivial⟩) (fun h hH hR => by
  obtain ⟨c, ck, m, g, ik, tf, kc, km, ej, rl, rk⟩ := hR
  have F := kc.1
  have q0 := kc.2.2.1
  obtain ⟨Rc, hRc⟩ := RA_of hH (p := 43) (Or.inl rfl)
  obtain ⟨s, sI, sJ, gF, gM⟩ := RN_sg (ok.2.2.2.2.1 _ _ rl)
  refine sDo_mono (s_image11 (d := 10) (by omega) q0 F kc.2.1 (fb_of hH F (Or.inl rfl))) (fun r1 h1 q hH1 fr1 => ?_)
  obtain ⟨rfl, F1, Fk1, z0, -, zq⟩ := q
  have km1 := kM_tr km (fun q x h1 _ hx => (zq q (by omega)).trans hx)
  refine sDo_mono (s_image12 km1.1 km1.2) (fun r2 h2 p hH2 fr2 => ?_)
  obtain ⟨rfl, M2, g2⟩ := p
  have nc : kC h1 c (cfBecome c ck) 1 tf := ⟨F1, Fk1, z0, fx_tr kc.2.2.2 (fun q x h1 h2 hx => (zq q (by omega)).trans hx)⟩
  have nc2 := kC_fr fr2 (by decide +kernel) (by decide +kernel) nc
  obtain ⟨W', H', N', -, -, c11, -, -, m6, -⟩ := ok.2.2.2.2.1 _ _ rl
  refine ⟨⟨c, _, _, _, 1, tf, nc2, ⟨M2, g2⟩, rfl, ok.1 _ m (upd m.1 37 (Int32.ofInt 1), m.2) rl ⟨fun j hj => u_ne (by omega), rfl⟩, fun _ m' => ok.2.2.2.1 _ m m' g (ok.2.2.1 c ck m rl)⟩, _, rfl, ?_⟩
  exact congrArg (fun z => some (Value.int z)) (m6.trans c11.symm))
theorem pk_restore {Rel : CF → MF → Prop} (ok : relOk Rel) : pairR (bFL Rel) 155 255 [] := pr_mk (c1 := cn_X11_restore_0) (c2 := cn_X12_restore_0) ch_X11_restore_0 ch_X12_restore_0 (by decide +kernel) (by decide +kernel) (by decide +kernel) (by decide +kernel) rfl rfl (fun h hH => ⟨bt0 hH, trivial⟩) (fun h hH => ⟨bt60 hH, trivial⟩) (fun h hH hR => by
  obtain ⟨c, ck, m, g, ik, tf, kc, km, ej, rl, rk⟩ := hR
  have F := kc.1
  have q0 := kc.2.2.1
  obtain ⟨Rc, hRc⟩ := RA_of hH (p := 43) (Or.inl rfl)
  obtain ⟨s, sI, sJ, gF, gM⟩ := RN_sg (ok.2.2.2.2.1 _ _ rl)
  refine sDo_mono (s_restore11 (d := 10) (by omega) q0 hRc F kc.2.1 (fb_of hH kc.2.1 (Or.inr rfl))) (fun r1 h1 q hH1 fr1 => ?_)
  rcases q with ⟨k, rfl, F1, E1⟩ | ⟨k, rfl, rfl⟩
  · have km1 := kM_fE km E1
    refine sDo_mono (s_restore12 hH1 km1.1 km1.2) (fun r2 h2 p hH2 fr2 => ?_)
    rcases p with ⟨k2, -⟩ | ⟨-, rfl, M2, g2⟩
    · exact absurd (ej.symm.trans k2) k
    · have nc := kC_fr fr2 (by decide +kernel) (by decide +kernel) (kC_5 kc F1 E1)
      have rl2 := ok.2.2.1 ck c _ (rk k m)
      obtain ⟨W', H', N', -, -, c11, -, -, m6, -⟩ := ok.2.2.2.2.1 _ _ (rk k m)
      refine ⟨⟨_, ck, _, g, ik, tf, nc, ⟨M2, g2⟩, ej, rl2, rk⟩, _, rfl, ?_⟩
      exact congrArg (fun z => some (Value.int z)) (show g 174 = ck.1 11 from m6.trans c11.symm)
  · have km1 := kM_43 (c := rFc (bump Rc 6)) km
    refine sDo_mono (s_restore12 hH1 km1.1 km1.2) (fun r2 h2 p hH2 fr2 => ?_)
    rcases p with ⟨-, rfl, M2, g2⟩ | ⟨k2, -⟩
    · exact ⟨⟨c, ck, m, g, ik, tf, kC_fr fr2 (by decide +kernel) (by decide +kernel) (kC_43 kc), ⟨M2, g2⟩, ej, rl, rk⟩, _, rfl, rfl⟩
    · exact absurd (ej.trans k) k2)
end
section
theorem pk_field {Rel : CF → MF → Prop} (ok : relOk Rel) (x : Int32) : pairR (fun h => bR5 h ∧ bFL Rel h) 122 202 [.int x] := pr_mk (c1 := cn_X11_field_0) (c2 := cn_X12_field_0) ch_X11_field_0 ch_X12_field_0 (by decide +kernel) (by decide +kernel) (by decide +kernel) (by decide +kernel) rfl rfl (fun h hH => ⟨bt0 hH, vI0 x, trivial⟩) (fun h hH => ⟨bt60 hH, vI0 x, trivial⟩) (fun h hH hRR => by
  obtain ⟨hR5, hR⟩ := hRR
  obtain ⟨c, ck, m, g, ik, tf, kc, km, ej, rl, rk⟩ := hR
  have F := kc.1
  have q0 := kc.2.2.1
  obtain ⟨Rc, hRc⟩ := RA_of hH (p := 43) (Or.inl rfl)
  obtain ⟨s, sI, sJ, gF, gM⟩ := RN_sg (ok.2.2.2.2.1 _ _ rl)
  obtain ⟨cd, Fd, -⟩ := FC_at27 hH kc.2.2.2
  have fb := fb_of hH F (Or.inl rfl)
  obtain ⟨hd, ro, sz, co, cl, f, gg, q4, bs⟩ := id hR5
  have q4' := q4
  obtain ⟨a1, a2, a3, a4, a5, a6, a7, a8⟩ := q4'
  have l79 := hH.1
  -- refused on both sides
  have refd : ∀ (b : Int32) (B : Nat), b.toInt = -(B : Int) → (1 ≤ B ∧ B ≤ 7) → sDo 9 161 [.ref 0, .int x] h (fun r h' => h' = h ∧ r = some (.int b)) → (((0 ≤ x.toInt ∧ x.toInt < 8) ∧ wtS hd x.toInt.toNat 1 = b) ∨ (¬ (0 ≤ x.toInt ∧ x.toInt < 8) ∧ b = -1)) → sDo 10 cn_X11_field_0.1 (.ref 0 :: [.int x]) h (fun r1 h1 => bH h1 → bFr cn_X11_field_0.2.2.2.2.1 cn_X11_field_0.2.2.2.2.2.1 h h1 → sDo 10 cn_X12_field_0.1 (.ref 60 :: [.int x]) h1 (fun r2 h2 => bH h2 → bFr cn_X12_field_0.2.2.2.2.1 cn_X12_field_0.2.2.2.2.2.1 h1 h2 → (bR5 h2 ∧ bFL Rel h2) ∧ ∃ x, r1 = some x ∧ r2 = some x)) := by
    intro b B hb hB hno hx
    refine sDo_mono (s_field11n (d := 10) (by omega) q0 hRc hb hB hno) (fun r1 h1 q hH1 fr1 => ?_)
    obtain ⟨rfl, rfl⟩ := q
    obtain ⟨Rm, hRm⟩ := RA_of hH1 (p := 61) (Or.inr rfl)
    refine sDo_mono (s_field12n (d := 10) (by omega) (kM_43 km).1.1 hRm (by rw [s_set_ne (by decide)]; exact a4) hb hB hx) (fun r2 h2 p hH2 fr2 => ?_)
    obtain ⟨rfl, rfl⟩ := p
    exact ⟨⟨bR5_fr fr2 (by decide +kernel) (bR5_43 hR5), c, ck, m, g, ik, tf, kC_61 (kC_43 kc), kM_61 (kM_43 km), ej, rl, rk⟩, _, rfl, rfl⟩
  by_cases hS : 0 ≤ x.toInt ∧ x.toInt < 8
  · obtain ⟨S, hx⟩ : ∃ S : Nat, x.toInt = S := ⟨x.toInt.toNat, by omega⟩
    obtain ⟨ot, z, el, b1, b2, b3⟩ := bs S (by omega)
    have hno := s_noIn (d := 7) (el := el) hH q4 hx (by omega) b1 b3
    have row : hd S = 1 ∨ (hd S = 0 ∨ hd S = 2) := by
      rcases b3 with ⟨e, -⟩ | ⟨e, -⟩ | ⟨e, -⟩
      · exact Or.inr (Or.inl e)
      · exact Or.inl e
      · exact Or.inr (Or.inr e)
    rcases row with h1 | h1
    · -- a row
      rcases b3 with ⟨e, -⟩ | ⟨-, -, eo, o0, o3, ez, z0, z100, eel⟩ | ⟨e, -⟩
      · rw [h1] at e; exact absurd e (by decide)
      · obtain ⟨n, hn⟩ : ∃ n : Nat, z.toInt = n := ⟨z.toInt.toNat, by omega⟩
        have hz : z = Int32.ofNat n := Int32.toInt_inj.mp (by rw [hn, ofN_toInt (by omega)])
        have hno0 : sDo 9 161 [.ref 0, .int x] h (fun r h' => h' = h ∧ r = some (.int 0)) := sDo_mono hno (fun r h' q => ⟨q.1, by rw [q.2]; unfold nrOf; rw [if_pos h1]⟩)
        have sI2 : sgI (cfBecome c cd) s := ⟨(bc_I c.1 cd.1 0 (by decide)).trans sI.1, (bc_I c.1 cd.1 1 (by decide)).trans sI.2.1, (bc_I c.1 cd.1 11 (by decide)).trans sI.2.2.1, sI.2.2.2⟩
        have RT1 : RT cl S n (tx el n) := ⟨by omega, by omega, fun i hi => by
            unfold tx
            rw [if_pos hi, eel i (by omega)], fun i hi => if_neg (by omega)⟩
        rw [hz] at b1
        refine sDo_mono (s_field11 (d := 10) (S := S) (n := n) (by omega) l79 q0 hRc F Fd fb (fun as => fb_dos (fb_bc (a := c) fb) as) (by omega) (by omega) hx a1 (a2 S (by omega)) b1 b2 sI2 hno0) (fun r1 h1' q hH1 fr1 => ?_)
        have hE : ∃ lo, (lo = 5 ∨ lo = 16) ∧ fdE h h1' lo := by
          unfold qF11 at q
          split at q
          · exact ⟨5, Or.inl rfl, q.2.2.2⟩
          · exact ⟨16, Or.inr rfl, q.2.2⟩
        obtain ⟨lo, hlo, E⟩ := hE
        have at_ : ∀ {p : Nat} {x : va_E}, h[p]? = some x → 43 < p → h1'[p]? = some x := fun hx hp => fdE_at E hx (by omega) (by omega) (by omega) (by omega)
        have km1 : kM h1' m g := kM_tr km (fun q x h1 _ hx => at_ hx (by omega))
        have M := km1.1
        obtain ⟨Rm, hRm⟩ := RA_of hH1 (p := 61) (Or.inr rfl)
        obtain ⟨gw, hgw, -, -⟩ := bA60 hH1 (p := 74) (by decide) rfl
        obtain ⟨wd, w0, WW⟩ := WD_of hH1
        have x27' := fxR_fr fr1 (Or.inr (Or.inr rfl)) (by decide +kernel) kc.2.2.2
        refine sDo_mono (s_field12 (d := 10) (S := S) (n := n) (by omega) M hRm hgw w0 WW (at_ a4 (by decide)) (at_ a6 (by decide)) (at_ a8 (by decide)) (by omega) hx h1 (by rw [← ez, hz]) RT1 sJ) (fun r2 h2 p hH2 fr2 => ?_)
        have R2 := bR5_fr fr2 (by decide +kernel) (bR5_fr fr1 (by decide +kernel) hR5)
        cases hi : itsS (tx el n) n 101 s 0 with
        | none =>
          rw [hi] at q p
          obtain ⟨rfl, ⟨tf2, z0'⟩, E1⟩ := q
          obtain ⟨rfl, ⟨m0, g0, m2, M2, mq⟩, E2⟩ := p
          have nc : kC h1' c ck ik tf2 := ⟨FC_tr F (fun q x h1 h2 hx => fdE_at E1 hx (by omega) (by omega) (by omega) (by omega)), FC_tr kc.2.1 (fun q x h1 h2 hx => fdE_at E1 hx (by omega) (by omega) (by omega) (by omega)), z0', x27'⟩
          have rl2 : Rel c m2 := ok.1 _ _ _ (ok.2.2.2.1 _ _ m0 g0 rl) mq
          exact ⟨⟨R2, c, ck, m2, g, ik, tf2, kC_fr fr2 (by decide +kernel) (by decide +kernel) nc, ⟨M2, (E2.2 75 (by decide) (by decide) (by decide)).trans km1.2⟩, (iso37 fr2 M.1 M2.1 (by decide +kernel)).trans ej, rl2, rk⟩, _, rfl, rfl⟩
        | some kb =>
          obtain ⟨k, as⟩ := kb
          rw [hi] at q p
          obtain ⟨rfl, F1, z0', E1⟩ := q
          obtain ⟨rfl, ⟨m2, M2, mq⟩, E2⟩ := p
          have okA := (its_ok hi sI2).1
          have rl1 : Rel (cfBecome c cd) m := ok.2.2.1 _ _ _ rl
          have rl2 := ok.2.2.1 _ c _ (rel_dos ok rl1 sI2 sJ okA)
          have rl3 := ok.1 _ _ _ rl2 mq
          have nc : kC h1' (cfBecome (as.foldl cfDo (cfBecome c cd)) c) ck ik (-1) := ⟨F1, FC_tr kc.2.1 (fun q x h1 h2 hx => fdE_at E1 hx (by omega) (by omega) (by omega) (by omega)), z0', x27'⟩
          exact ⟨⟨R2, _, ck, m2, g, ik, -1, kC_fr fr2 (by decide +kernel) (by decide +kernel) nc, ⟨M2, (E2.2 75 (by decide) (by decide) (by decide)).trans km1.2⟩, (iso37 fr2 M.1 M2.1 (by decide +kernel)).trans ej, rl3, rk⟩, _, rfl, rfl⟩
      · rw [h1] at e; exact absurd e (by decide)
    · obtain ⟨B, hB, eB, ew⟩ := nr_b h1
      exact refd _ B eB hB hno (Or.inl ⟨hS, by rw [show x.toInt.toNat = S by omega]; exact ew⟩)
  · exact refd (-1) 1 (by decide) (by decide) (s_noOut (d := 7) hS) (Or.inr ⟨hS, rfl⟩))
end
section
/-! ===== soils, shares, worths, FOND alike ===== -/
def RSs (s : Sg) (c : CF) (m : MF) : Prop := (∀ v, v < 6 → c.2.2.1 v = stO (fun q => decide (m.2.1 q = Int32.ofNat v)) (s.1 * s.2.1)) ∧ (∀ q, q < s.1 * s.2.1 → ∃ v, v < 6 ∧ m.2.1 q = Int32.ofNat v) ∧ (∀ k, k < s.2.2 → c.2.2.2.1 k = m.2.2.2.1 k ∧ c.2.2.2.2.2.1 k = m.2.2.2.2.1 k) ∧ (∀ k, k < s.2.2 → ∀ v, v < 6 → c.2.2.2.2.1 k v = m.2.2.2.2.2 (6 * k + v)) ∧ ∀ k, k < s.2.2 → (∃ n, 1 ≤ n ∧ n ≤ 9 ∧ m.2.2.2.1 k = Int32.ofNat n) ∧ (m.2.2.2.2.1 k = 0 ∨ m.2.2.2.2.1 k = 1) ∧ ∀ v, v < 6 → ∃ n, n < 100 ∧ m.2.2.2.2.2 (6 * k + v) = Int32.ofNat n
/-- the places may stand -/
def RPs (s : Sg) (J : Nat → Int32) : Prop := ∀ k : Nat, k ≤ 3 → okPl (s.1 * s.2.1) (k : Int) (J (2 + k)).toInt
def RB (c : CF) (m : MF) : Prop := RN c m ∧ ∀ s : Sg, sgI c s → RSs s c m ∧ RPs s m.1
theorem ofN_inj {a b : Nat} (ha : a < 1000) (hb : b < 1000) (h : Int32.ofNat a = Int32.ofNat b) : a = b := by
  have h2 := congrArg Int32.toInt h
  rw [ofN_toInt (by omega), ofN_toInt (by omega)] at h2
  omega
theorem sgI_inj {c : CF} {s s' : Sg} (a : sgI c s) (b : sgI c s') : s = s' := by
  obtain ⟨x, y, z⟩ := s
  obtain ⟨x', y', z'⟩ := s'
  obtain ⟨a1, a2, a3, a4, a5, a6, a7, a8⟩ := a
  obtain ⟨b1, b2, b3, b4, b5, b6, b7, b8⟩ := b
  have a5 : x ≤ 8 := a5
  have a7 : y ≤ 8 := a7
  have a8 : z ≤ 5 := a8
  have b5 : x' ≤ 8 := b5
  have b7 : y' ≤ 8 := b7
  have b8 : z' ≤ 5 := b8
  have e1 : x = x' := ofN_inj (show x < 1000 by omega) (show x' < 1000 by omega) (a1.symm.trans b1)
  have e2 : y = y' := ofN_inj (show y < 1000 by omega) (show y' < 1000 by omega) (a2.symm.trans b2)
  have e3 : z = z' := ofN_inj (show z < 1000 by omega) (show z' < 1000 by omega) (a3.symm.trans b3)
  rw [e1, e2, e3]
theorem RB_s {c : CF} {m : MF} {s : Sg} (r : RB c m) (q : sgI c s) : RSs s c m := (r.2 s q).1
theorem RB_mk {c : CF} {m : MF} {s : Sg} (a : RN c m) (q : sgI c s) (b : RSs s c m) (b2 : RPs s m.1) : RB c m := ⟨a, fun s' q' => by rw [← sgI_inj q q']; exact ⟨b, b2⟩⟩
theorem RPs_J {s : Sg} {J J' : Nat → Int32} (r : RPs s J) (e : ∀ j, j < 7 → J' j = J j) : RPs s J' := fun k hk => by rw [e (2 + k) (by omega)]; exact r k hk
theorem okPl_n {n n' : Nat} {k : Nat} {v : Int} (h : okPl n k v) (hk : k = 0 ∨ k = 3) : okPl n' k v := by
  unfold okPl at h ⊢
  omega
theorem RSs_c {s : Sg} {c c' : CF} {m m' : MF} (r : RSs s c m) (e : c'.2.2 = c.2.2) (e' : m'.2 = m.2) : RSs s c' m' := by
  obtain ⟨I, G, R⟩ := c
  obtain ⟨I', G', R'⟩ := c'
  obtain ⟨J, T⟩ := m
  obtain ⟨J', T'⟩ := m'
  have e : R' = R := e
  have e' : T' = T := e'
  subst e e'
  exact r
theorem RN_sgI {c : CF} {m : MF} (r : RN c m) : ∃ s : Sg, sgI c s ∧ sgJ m.1 s := by
  obtain ⟨s, a, b, -⟩ := RN_sg r
  exact ⟨s, a, b⟩
theorem stO_ext {P Q : Nat → Bool} {n : Nat} (hn : n ≤ 64) (h : ∀ q, q < n → P q = Q q) : stO P n = stO Q n := bt_ext (fun i hi => by
  rw [bt_stO _ _ hn, bt_stO _ _ hn]
  by_cases z : i < n
  · rw [h i z]
  · rw [decide_eq_false z, Bool.false_and, Bool.false_and])
theorem stO_no {P : Nat → Bool} {n : Nat} (hn : n ≤ 64) (h : ∀ q, q < n → P q = false) : stO P n = Int64.ofNat 0 := bt_ext (fun i hi => by
  rw [bt_stO _ _ hn, bt_0]
  by_cases z : i < n
  · rw [h i z, Bool.and_false]
  · rw [decide_eq_false z, Bool.false_and])
theorem svF_so (m : MF) (g : Nat → Int32) {q : Nat} (hq : q < 64) : svF m g q = m.2.1 q := by
  unfold svF
  rw [gS7_ne (by omega), gS_A hq]
theorem svF_sh (m : MF) (g : Nat → Int32) {q : Nat} (hq : q < 5) : svF m g (128 + q) = m.2.2.2.1 q := by
  unfold svF
  rw [gS7_ne (by omega), gS_C hq]
theorem svF_fo (m : MF) (g : Nat → Int32) {q : Nat} (hq : q < 5) : svF m g (133 + q) = m.2.2.2.2.1 q := by
  unfold svF
  rw [gS7_ne (by omega)]
  unfold gS ks
  rw [if_neg (by omega), if_pos (by omega)]
  exact congrArg _ (by omega)
theorem svF_va (m : MF) (g : Nat → Int32) {q : Nat} (hq : q < 30) : svF m g (138 + q) = m.2.2.2.2.2 q := by
  unfold svF
  rw [gS7_ne (by omega)]
  unfold gS ks
  rw [if_pos (by omega)]
  exact congrArg _ (by omega)
theorem RSs_back {s : Sg} {c : CF} {m : MF} (h1 : s.1 * s.2.1 ≤ 64) (hN : s.2.2 ≤ 5) (r : RSs s c m) (m' : MF) (g : Nat → Int32) : RSs s c (mfBack m' (svF m g)) := by
  obtain ⟨r1, r2, r3, r4, r5⟩ := r
  have eH : ∀ k, k < 5 → (mfBack m' (svF m g)).2.2.2.1 k = m.2.2.2.1 k := fun k hk => by
    show kb m'.2.2.2.1 (svF m g) 128 5 k = _
    unfold kb
    rw [if_pos (by omega), svF_sh m g (by omega)]
  have eF : ∀ k, k < 5 → (mfBack m' (svF m g)).2.2.2.2.1 k = m.2.2.2.2.1 k := fun k hk => by
    show kb m'.2.2.2.2.1 (svF m g) 133 5 k = _
    unfold kb
    rw [if_pos (by omega), svF_fo m g (by omega)]
  have eV : ∀ j, j < 30 → (mfBack m' (svF m g)).2.2.2.2.2 j = m.2.2.2.2.2 j := fun j hj => by
    show kb m'.2.2.2.2.2 (svF m g) 138 30 j = _
    unfold kb
    rw [if_pos (by omega), svF_va m g (by omega)]
  have eS : ∀ q, q < 64 → (mfBack m' (svF m g)).2.1 q = m.2.1 q := fun q hq => by
    show kb m'.2.1 (svF m g) 0 64 q = _
    unfold kb
    rw [if_pos hq, Nat.zero_add, svF_so m g hq]
  refine ⟨fun v hv => (r1 v hv).trans (stO_ext h1 (fun q hq => by rw [eS q (by omega)])), fun q hq => by rw [eS q (by omega)]; exact r2 q hq, fun k hk => ?_, fun k hk v hv => ?_, fun k hk => ⟨?_, ?_, fun v hv => ?_⟩⟩
  · rw [eH k (by omega), eF k (by omega)]; exact r3 k hk
  · rw [eV (6 * k + v) (by omega)]; exact r4 k hk v hv
  · rw [eH k (by omega)]; exact (r5 k hk).1
  · rw [eF k (by omega)]; exact (r5 k hk).2.1
  · rw [eV (6 * k + v) (by omega)]; exact (r5 k hk).2.2 v hv
theorem RSs_bec {s : Sg} {a b : CF} {m : MF} (hN : s.2.2 ≤ 5) (r : RSs s a m) : RSs s (cfBecome a b) m := by
  obtain ⟨r1, r2, r3, r4, r5⟩ := r
  refine ⟨fun v hv => ?_, r2, fun k hk => ?_, fun k hk v hv => ?_, r5⟩
  · exact (show cpL a.2.2.1 b.2.2.1 6 v = a.2.2.1 v from if_pos hv).trans (r1 v hv)
  · exact ⟨(show cpI a.2.2.2.1 b.2.2.2.1 5 k = a.2.2.2.1 k from if_pos (by omega)).trans (r3 k hk).1, (show cpI a.2.2.2.2.2.1 b.2.2.2.2.2.1 5 k = a.2.2.2.2.2.1 k from if_pos (by omega)).trans (r3 k hk).2⟩
  · refine (show bcW a.2.2.2.2.1 b.2.2.2.2.1 5 k v = a.2.2.2.2.1 k v from ?_).trans (r4 k hk v hv)
    unfold bcW
    rw [if_pos (show k < 5 by omega)]
    exact if_pos hv
/-- a set goes over to one soil -/
theorem RSs_lay {s : Sg} {c : CF} {m : MF} {v : Nat} {set : Int64} {P : Nat → Bool} {so' : Nat → Int32} (h1 : s.1 * s.2.1 ≤ 64) (hv : v < 6) (hs : set = stO P (s.1 * s.2.1)) (e : ∀ q, q < s.1 * s.2.1 → so' q = if P q = true then Int32.ofNat v else m.2.1 q) (r : RSs s c m) : RSs s (c.1, c.2.1, giveS c.2.2.1 6 set v, c.2.2.2) (m.1, so', m.2.2) := by
  obtain ⟨r1, r2, r3, r4, r5⟩ := r
  refine ⟨fun u hu => ?_, fun q hq => ?_, r3, r4, r5⟩
  · show giveS c.2.2.1 6 set v u = stO (fun q => decide (so' q = Int32.ofNat u)) (s.1 * s.2.1)
    have gu : ∀ u, u < 6 → gvF c.2.2.1 set 6 u = c.2.2.1 u &&& (set ^^^ lM1) := fun u hu => if_pos hu
    refine bt_ext (fun i hi => ?_)
    rw [bt_stO _ _ h1]
    by_cases z : i < s.1 * s.2.1
    · rw [decide_eq_true z, Bool.true_and, e i z]
      have k1 : bt (c.2.2.1 u) i = decide (m.2.1 i = Int32.ofNat u) := by rw [r1 u hu, bt_stO _ _ h1, decide_eq_true z, Bool.true_and]
      have k2 : bt set i = P i := by rw [hs, bt_stO _ _ h1, decide_eq_true z, Bool.true_and]
      by_cases w : u = v
      · subst w
        rw [show giveS c.2.2.1 6 set u u = gvF c.2.2.1 set 6 u ||| set from if_pos rfl, gu u hu, bt_or, bt_and, bt_not, k1, k2, decide_eq_true hi, Bool.true_and]
        cases hp : P i
        · rw [if_neg (by decide), Bool.not_false, Bool.and_true, Bool.or_false]
        · rw [if_pos rfl, Bool.or_true, decide_eq_true rfl]
      · rw [show giveS c.2.2.1 6 set v u = gvF c.2.2.1 set 6 u from if_neg w, gu u hu, bt_and, bt_not, k1, k2, decide_eq_true hi, Bool.true_and]
        cases hp : P i
        · rw [if_neg (by decide), Bool.not_false, Bool.and_true]
        · rw [if_pos rfl, Bool.not_true, Bool.and_false]
          exact (decide_eq_false (fun y => w (ofN_inj (by omega) (by omega) y).symm)).symm
    · rw [decide_eq_false z, Bool.false_and]
      have k1 : bt (c.2.2.1 u) i = false := by rw [r1 u hu, bt_stO _ _ h1, decide_eq_false z, Bool.false_and]
      have k2 : bt set i = false := by rw [hs, bt_stO _ _ h1, decide_eq_false z, Bool.false_and]
      by_cases w : u = v
      · subst w
        rw [show giveS c.2.2.1 6 set u u = gvF c.2.2.1 set 6 u ||| set from if_pos rfl, gu u hu, bt_or, bt_and, k1, k2]
        rfl
      · rw [show giveS c.2.2.1 6 set v u = gvF c.2.2.1 set 6 u from if_neg w, gu u hu, bt_and, k1]
        rfl
  · show ∃ v, v < 6 ∧ so' q = Int32.ofNat v
    rw [e q hq]
    cases hp : P q
    · rw [if_neg (by decide)]; exact r2 q hq
    · rw [if_pos rfl]; exact ⟨v, hv, rfl⟩
theorem bt_low2 {n i : Nat} (hn : n < 1000) (hi : i < 64) : bt (lowS (Int32.ofNat n)) i = decide (i < n) := by
  rw [bt_low hi, ofN_toInt (by omega)]
  exact decide_eq_decide.mpr (by omega)
theorem RSs_do {s : Sg} {c : CF} {m : MF} {a : Act} (g : gdF c s.1 s.2.1) (q : sgI c s) (p : sgJ m.1 s) (k : actOk s a) (r : RSs s c m) : RSs (sgDo s a) (cfDo c a) (mfDo m a) := by
  have hn := gdF_n g
  obtain ⟨i, x, y, z⟩ := a
  match i, k with
  | 0, k =>
    obtain ⟨r1, r2, r3, r4, r5⟩ := r
    have k : 2 ≤ x ∧ x ≤ 8 ∧ 2 ≤ y ∧ y ≤ 8 := k
    have g2 := (gdF_size (c := c) k.1 k.2.1 k.2.2.1 k.2.2.2)
    have n2 := gdF_n g2
    have lw : lowS (Int32.ofNat x * Int32.ofNat y) = stO (fun _ => true) (x * y) := g2.2.2.2.2.2.2.1
    refine ⟨fun v hv => ?_, fun q hq => ⟨0, by decide, (show fillF (Int32.ofInt 0) m.2.1 64 q = _ from if_pos (by have hq : q < x * y := hq; omega))⟩, r3, r4, r5⟩
    show vp_updL (zrF c.2.2.1 6) 0 (lowS (Int32.ofNat x * Int32.ofNat y)) v = stO (fun q => decide (fillF (Int32.ofInt 0) m.2.1 64 q = Int32.ofNat v)) (x * y)
    have e0 : ∀ q, q < x * y → fillF (Int32.ofInt 0) m.2.1 64 q = Int32.ofNat 0 := fun q hq => if_pos (by omega)
    by_cases w : v = 0
    · subst w
      rw [show vp_updL (zrF c.2.2.1 6) 0 (lowS (Int32.ofNat x * Int32.ofNat y)) 0 = _ from if_pos rfl, lw]
      exact stO_ext n2.1 (fun q hq => by rw [e0 q hq, decide_eq_true rfl])
    · rw [show vp_updL (zrF c.2.2.1 6) 0 (lowS (Int32.ofNat x * Int32.ofNat y)) v = zrF c.2.2.1 6 v from if_neg w, show zrF c.2.2.1 6 v = Int64.ofNat 0 from if_pos hv]
      exact (stO_no n2.1 (fun q hq => by rw [e0 q hq]; exact decide_eq_false (fun z => w (ofN_inj (by omega) (by omega) z).symm))).symm
  | 1, k =>
    have k : x < 6 ∧ y ≤ z ∧ z < s.1 * s.2.1 := k
    have g2 : c.2.1 2 = stO (fun _ => true) (s.1 * s.2.1) := g.2.2.2.2.2.2.1
    show RSs s (c.1, c.2.1, giveS c.2.2.1 6 ((lowS (Int32.ofNat (z + 1)) &&& c.2.1 2) &&& ((lowS (Int32.ofNat y) &&& c.2.1 2) ^^^ Int64.ofNat 18446744073709551615)) x, c.2.2.2) (m.1, (fun i => if y ≤ i ∧ i ≤ z then Int32.ofNat x else m.2.1 i), m.2.2)
    refine RSs_lay (s := s) (P := fun q => decide (y ≤ q ∧ q ≤ z)) hn.1 k.1 (bt_ext (fun i hi => ?_)) (fun q hq => ?_) r
    · show bt ((lowS (Int32.ofNat (z + 1)) &&& c.2.1 2) &&& ((lowS (Int32.ofNat y) &&& c.2.1 2) ^^^ lM1)) i = _
      rw [bt_and, bt_and, bt_not, bt_and, g2, bt_stO _ _ hn.1, bt_stO _ _ hn.1, bt_low2 (by omega) hi, bt_low2 (by omega) hi, decide_eq_true hi, Bool.true_and, Bool.and_true]
      by_cases w : i < s.1 * s.2.1
      · rw [decide_eq_true w, Bool.true_and, Bool.and_true, Bool.and_true]
        by_cases w1 : i < z + 1
        · by_cases w2 : i < y
          · rw [decide_eq_true w1, decide_eq_true w2, decide_eq_false (show ¬ (y ≤ i ∧ i ≤ z) by omega)]; rfl
          · rw [decide_eq_true w1, decide_eq_false w2, decide_eq_true (show y ≤ i ∧ i ≤ z by omega)]; rfl
        · rw [decide_eq_false w1, decide_eq_false (show ¬ (y ≤ i ∧ i ≤ z) by omega)]; rfl
      · rw [decide_eq_false w, Bool.and_false, Bool.false_and, Bool.false_and]
    · show (if y ≤ q ∧ q ≤ z then Int32.ofNat x else m.2.1 q) = _
      by_cases w : y ≤ q ∧ q ≤ z
      · rw [if_pos w, if_pos (decide_eq_true w)]
      · rw [if_neg w, if_neg (by rw [decide_eq_false w]; decide)]
  | 2, k => exact r
  | 3, k =>
    have k3 : s.2.2 < 5 := k.2.2
    have eN := ofN_toInt (n := s.2.2) (by omega)
    have e1 : (c.1 11).toNatClampNeg = s.2.2 := by rw [q.2.2.1]; exact i_nat eN
    have e2 : (m.1 6).toNatClampNeg = s.2.2 := by rw [p.2.2.1]; exact i_nat eN
    show RSs (s.1, s.2.1, s.2.2 + 1) (cfHeir (c.1 11).toNatClampNeg (Int32.ofNat x) c) (mfHeir (m.1 6).toNatClampNeg (Int32.ofNat x) m)
    rw [e1, e2]
    obtain ⟨r1, r2, r3, r4, r5⟩ := r
    have kx : 1 ≤ x ∧ x ≤ 9 := ⟨k.1, k.2.1⟩
    refine ⟨r1, r2, fun k hk => ?_, fun k hk v hv => ?_, fun k hk => ⟨?_, ?_, fun v hv => ?_⟩⟩
    · have hk : k < s.2.2 + 1 := hk
      show upd c.2.2.2.1 s.2.2 (Int32.ofNat x) k = upd m.2.2.2.1 s.2.2 (Int32.ofNat x) k ∧ upd c.2.2.2.2.2.1 s.2.2 0 k = upd m.2.2.2.2.1 s.2.2 (Int32.ofInt 0) k
      by_cases w : k = s.2.2
      · rw [w, u_at, u_at, u_at, u_at]; exact ⟨rfl, rfl⟩
      · rw [u_ne w, u_ne w, u_ne w, u_ne w]; exact r3 k (by omega)
    · have hk : k < s.2.2 + 1 := hk
      show (if k = s.2.2 then tenF (c.2.2.2.2.1 s.2.2) 6 else c.2.2.2.2.1 k) v = tenV m.2.2.2.2.2 s.2.2 6 (6 * k + v)
      unfold tenV
      by_cases w : k = s.2.2
      · rw [if_pos w, if_pos (show 6 * s.2.2 ≤ 6 * k + v ∧ 6 * k + v < 6 * s.2.2 + 6 by omega)]
        exact if_pos hv
      · rw [if_neg w, if_neg (show ¬ (6 * s.2.2 ≤ 6 * k + v ∧ 6 * k + v < 6 * s.2.2 + 6) by omega)]
        exact r4 k (by omega) v hv
    · have hk : k < s.2.2 + 1 := hk
      show ∃ n, 1 ≤ n ∧ n ≤ 9 ∧ upd m.2.2.2.1 s.2.2 (Int32.ofNat x) k = Int32.ofNat n
      by_cases w : k = s.2.2
      · rw [w, u_at]; exact ⟨x, kx.1, kx.2, rfl⟩
      · rw [u_ne w]; exact (r5 k (by omega)).1
    · have hk : k < s.2.2 + 1 := hk
      show upd m.2.2.2.2.1 s.2.2 (Int32.ofInt 0) k = 0 ∨ upd m.2.2.2.2.1 s.2.2 (Int32.ofInt 0) k = 1
      by_cases w : k = s.2.2
      · rw [w, u_at]; exact Or.inl rfl
      · rw [u_ne w]; exact (r5 k (by omega)).2.1
    · have hk : k < s.2.2 + 1 := hk
      show ∃ n, n < 100 ∧ tenV m.2.2.2.2.2 s.2.2 6 (6 * k + v) = Int32.ofNat n
      unfold tenV
      by_cases w : k = s.2.2
      · rw [if_pos (show 6 * s.2.2 ≤ 6 * k + v ∧ 6 * k + v < 6 * s.2.2 + 6 by omega)]; exact ⟨10, by decide, rfl⟩
      · rw [if_neg (show ¬ (6 * s.2.2 ≤ 6 * k + v ∧ 6 * k + v < 6 * s.2.2 + 6) by omega)]; exact (r5 k (by omega)).2.2 v hv
  | i + 4, k =>
    have k : x < s.2.2 ∧ y < 6 ∧ z < 100 := k
    obtain ⟨r1, r2, r3, r4, r5⟩ := r
    refine ⟨r1, r2, r3, fun k' hk v hv => ?_, fun k' hk => ⟨(r5 k' hk).1, (r5 k' hk).2.1, fun v hv => ?_⟩⟩
    rotate_left
    · show ∃ n, n < 100 ∧ upd m.2.2.2.2.2 (6 * x + y) (Int32.ofNat z) (6 * k' + v) = Int32.ofNat n
      by_cases w : 6 * k' + v = 6 * x + y
      · rw [w, u_at]; exact ⟨z, k.2.2, rfl⟩
      · rw [u_ne w]; exact (r5 k' hk).2.2 v hv
    have hk : k' < s.2.2 := hk
    show (if k' = x then upd (c.2.2.2.2.1 x) y (Int32.ofNat z) else c.2.2.2.2.1 k') v = upd m.2.2.2.2.2 (6 * x + y) (Int32.ofNat z) (6 * k' + v)
    by_cases w : k' = x
    · subst w
      rw [if_pos rfl]
      by_cases w2 : v = y
      · rw [w2, u_at, u_at]
      · rw [u_ne w2, u_ne (by omega)]; exact r4 k' hk v hv
    · rw [if_neg w, u_ne (by omega)]; exact r4 k' hk v hv
theorem RPs_do {s : Sg} {m : MF} {a : Act} (k : actOk s a) (r : RPs s m.1) : RPs (sgDo s a) (mfDo m a).1 := by
  obtain ⟨i, x, y, z⟩ := a
  match i, k with
  | 0, k =>
    intro j hj
    show okPl (x * y) (j : Int) (szJ (Int32.ofNat x) (Int32.ofNat y) m.1 (2 + j)).toInt
    rcases (show j = 0 ∨ j = 1 ∨ j = 2 ∨ j = 3 by omega) with rfl | rfl | rfl | rfl
    · exact okPl_n (r 0 hj) (Or.inl rfl)
    · exact Or.inr (Or.inl ⟨Or.inl rfl, Or.inl rfl⟩)
    · exact Or.inr (Or.inl ⟨Or.inr rfl, Or.inl rfl⟩)
    · exact okPl_n (r 3 hj) (Or.inr rfl)
  | 1, k => exact r
  | 2, k =>
    have k1 : x < 4 ∧ y < 100 ∧ okPl (s.1 * s.2.1) x y := k
    intro j hj
    show okPl (s.1 * s.2.1) (j : Int) (upd m.1 (2 + x) (Int32.ofNat y) (2 + j)).toInt
    by_cases w : j = x
    · rw [w, u_at, ofN_toInt (by omega)]; exact k1.2.2
    · rw [u_ne (by omega)]; exact r j hj
  | 3, k =>
    intro j hj
    show okPl (s.1 * s.2.1) (j : Int) (upd m.1 6 (Int32.ofNat ((m.1 6).toNatClampNeg + 1)) (2 + j)).toInt
    rw [u_ne (by omega)]
    exact r j hj
  | i + 4, k => exact r
theorem RB_ok : relOk RB := by
  refine ⟨fun c m m' r q => ⟨RN_ok.1 c m m' r.1 q, fun s hs => ⟨RSs_c (r.2 s hs).1 rfl q.2, RPs_J (r.2 s hs).2 q.1⟩⟩, fun c m s a r q p k => ?_, fun a b m r => ?_, fun c m m' g r => ?_, fun c m r => r.1, fun c m s k v r q hk hv => ?_⟩
  · have z := sg_do q p k
    obtain ⟨s', sI, -, gF, -⟩ := RN_sg r.1
    have e : s' = s := sgI_inj sI q
    subst e
    exact RB_mk (RN_ok.2.1 c m s' a r.1 q p k) z.1 (RSs_do gF q p k (r.2 s' q).1) (RPs_do k (r.2 s' q).2)
  · obtain ⟨s, sI, -⟩ := RN_sgI r.1
    have sI2 : sgI (cfBecome a b) s := ⟨(bc_I a.1 b.1 0 (by decide)).trans sI.1, (bc_I a.1 b.1 1 (by decide)).trans sI.2.1, (bc_I a.1 b.1 11 (by decide)).trans sI.2.2.1, sI.2.2.2⟩
    exact RB_mk (RN_ok.2.2.1 a b m r.1) sI2 (RSs_bec sI.2.2.2.2.2.2.2 (r.2 s sI).1) (r.2 s sI).2
  · obtain ⟨s, sI, -, gF, -⟩ := RN_sg r.1
    exact RB_mk (RN_ok.2.2.2.1 c m m' g r.1) sI (RSs_back (gdF_n gF).1 sI.2.2.2.2.2.2.2 (r.2 s sI).1 m' g) (RPs_J (r.2 s sI).2 (fun j hj => bk_sv j hj))
  · have sI2 : sgI (upd c.1 (7 + k) v, c.2) s := ⟨(u_ne (show (0 : Nat) ≠ 7 + k by omega)).trans q.1, (u_ne (show (1 : Nat) ≠ 7 + k by omega)).trans q.2.1, (u_ne (show (11 : Nat) ≠ 7 + k by omega)).trans q.2.2.1, q.2.2.2⟩
    refine RB_mk (RN_ok.2.2.2.2.2 c m s k v r.1 q hk hv) sI2 (RSs_c (r.2 s q).1 rfl rfl) (fun j hj => ?_)
    show okPl (s.1 * s.2.1) (j : Int) (upd m.1 (2 + k) v (2 + j)).toInt
    by_cases w : j = k
    · rw [w, u_at]; exact hv
    · rw [u_ne (by omega)]; exact (r.2 s q).2 j hj
theorem RB_no : noOw RB := fun c m o1 o2 r => by
  refine ⟨RN_J (m' := (m.1, m.2.1, o2, m.2.2.2)) (RN_C (c' := (c.1, c.2.1, c.2.2.1, c.2.2.2.1, c.2.2.2.2.1, c.2.2.2.2.2.1, o1)) r.1 (fun _ _ => rfl) (fun _ _ _ => rfl)) (fun _ _ => rfl), fun s hs => ?_⟩
  exact r.2 s hs
end
