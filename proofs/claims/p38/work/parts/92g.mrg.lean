section
/-! ===== the reference's cuts, one after another ===== -/
def rcP (h : sHp) (L : List Nat) (J0 : Nat → Int32) : Prop := ∃ (J fc : Nat → Int32), h[60]? = some (mO J) ∧ (∀ j, j ≠ 31 → J j = J0 j) ∧ J 31 = Int32.ofNat L.length ∧ h[76]? = some (.inl (0, 1000, .inl fc)) ∧ ∀ i c, L[i]? = some c → fc i = Int32.ofNat c
def rsE (h h' : sHp) : Prop := h'.length = h.length ∧ ∀ q, q ≠ 60 → q ≠ 76 → h'[q]? = h[q]?
theorem rsE_rfl {h : sHp} : rsE h h := ⟨rfl, fun _ _ _ => rfl⟩
theorem rsE_tr {a b c : sHp} (x : rsE a b) (y : rsE b c) : rsE a c := ⟨y.1.trans x.1, fun q h1 h2 => (y.2 q h1 h2).trans (x.2 q h1 h2)⟩
theorem s_lists1 {d : Nat} {h : sHp} {L : List Nat} {J0 : Nat → Int32} {x : Int32} {C : Nat} (b : Bool) (hd : 1 ≤ d) (P : rcP h L J0) (hl : L.length < 999) (hx : x = Int32.ofNat C) : sDo d 231 [.ref 60, .int x, .int (if b = true then 1 else 0)] h (fun r h' => r = none ∧ rcP h' (L ++ (if b = true then [C] else [])) J0 ∧ rsE h h') := by
  obtain ⟨J, fc, hr, b0, b6, h76, p1⟩ := id P
  have e6 : (J 31).toInt = ((L.length : Nat) : Int) := by rw [b6]; exact ofN_toInt (by omega)
  cases b
  · rw [if_neg (by decide), if_neg (by decide), List.append_nil]
    refine sDo_of1 (nL := 3) (L := [some (.ref 60), some (.int x), some (.int 0)]) hd rfl rfl ?_
    refine g_iload_n (i := 2) rfl rfl ?_
    refine g_if_eq 21 rfl rfl (fun _ => ?_) (fun hc => absurd hc (by decide))
    refine g_return rfl rfl ?_
    exact ⟨rfl, P, rsE_rfl⟩
  · rw [if_pos rfl, if_pos rfl]
    refine sDo_of1 (nL := 3) (L := [some (.ref 60), some (.int x), some (.int 1)]) hd rfl rfl ?_
    refine g_iload_n (i := 2) rfl rfl ?_
    refine g_if_eq 21 rfl rfl (fun hc => absurd hc (by decide)) (fun _ => ?_)
    refine g_aload_n (i := 0) rfl rfl ?_
    refine g_getfield (v := .ref 76) rfl hr (by decide) rfl ?_
    refine g_aload_n (i := 0) rfl rfl ?_
    refine g_dup rfl rfl ?_
    refine g_getfield (v := .int (J 31)) rfl hr (by decide) rfl ?_
    refine g_dup_x1 rfl rfl rfl ?_
    refine g_iconst (n := 1) rfl ?_
    have k_1 : (Int32.ofInt 1).toInt = 1 := rfl
    refine g_iadd rfl ?_
    have t_2 : ((J 31) + (Int32.ofInt 1)).toInt = ((L.length + 1 : Nat) : Int) := by rw [i_add (by rw [e6, k_1]; omega) (by rw [e6, k_1]; omega), e6, k_1]; omega
    refine g_putfield (h1 := h.set 60 (mO (upd J 31 (J 31 + Int32.ofInt 1)))) rfl hr (by decide) (Nat.le_of_ble_eq_true rfl) rfl rfl ?_
    refine g_iload_n (i := 1) rfl rfl ?_
    refine g_iastore (n := 1000) (f := fc) (h1 := (h.set 60 (mO (upd J 31 (J 31 + Int32.ofInt 1)))).set 76 (.inl (0, 1000, .inl (upd fc L.length x)))) rfl (by rw [s_set_ne (by decide)]; exact h76) (i_in (by omega) (by omega)) (by rw [i_nat e6]) ?_
    refine g_return rfl rfl ?_
    refine ⟨rfl, ⟨upd J 31 (J 31 + Int32.ofInt 1), upd fc L.length x, by rw [s_set_ne (by decide)]; exact s_set_eq hr, fun j hj => (u_ne hj).trans (b0 j hj), ?_, s_set_eq (by rw [s_set_ne (by decide)]; exact h76), fun i c hi => ?_⟩, ⟨by rw [List.length_set, List.length_set], fun q h1 h2 => by rw [s_set_ne (Ne.symm h2), s_set_ne (Ne.symm h1)]⟩⟩
    · rw [u_at, b6, ofN_add (by omega), List.length_append]; rfl
    · rcases app_at hi with ⟨h1, h2⟩ | ⟨rfl, rfl⟩
      · rw [u_ne (by omega)]; exact p1 i c h2
      · rw [u_at]; exact hx
theorem bif_len {b : Bool} {L : List Nat} : (if b = true then L else []).length ≤ L.length := by
  cases b
  · exact Nat.zero_le _
  · exact Nat.le_refl _
theorem bif_app {b : Bool} {A B : List Nat} : (if b = true then A else []) ++ (if b = true then B else []) = if b = true then A ++ B else [] := by
  cases b <;> rfl
theorem s_lm_str {d : Nat} {h0 : sHp} {W H : Nat} {J0 : Nat → Int32} {kd : Int32} {Q : Option Value → sHp → Prop} (hd : 2 ≤ d) (g : gdM J0 W H) {o3 o4 : Option Value} (hk : ¬ (kd &&& Int32.ofInt 2 = 0)) : ∀ (f v : Nat) (h : sHp) (L : List Nat), v + f = W → 1 ≤ v → L.length + (strT f v).length ≤ 644 → rsE h0 h → rcP h L J0 → (∀ (h' : sHp), rsE h0 h' → rcP h' (L ++ strT f v) J0 → sGo none 232 d 44 [some (.ref 60), some (.int kd), some (.int (Int32.ofNat W)), o3, o4] [] h' Q) → sGo none 232 d 7 [some (.ref 60), some (.int kd), some (.int (Int32.ofNat v)), o3, o4] [] h Q := by
  obtain ⟨gw, gh, w2, w8, h2, h8⟩ := id g
  have hw0 : (J0 0).toInt = ((W : Nat) : Int) := by rw [gw]; exact ofN_toInt (by omega)
  have hw1 : (J0 1).toInt = ((H : Nat) : Int) := by rw [gh]; exact ofN_toInt (by omega)
  intro f
  induction f with
  | zero =>
    intro v h L hv hv1 hl E P hQ
    have ek := ofN_toInt (n := v) (by omega)
    obtain ⟨J, fc, hr, b0, b6, h76, -⟩ := id P
    have j0 : (J 0).toInt = ((W : Nat) : Int) := by rw [b0 0 (by decide)]; exact hw0
    have j1 : (J 1).toInt = ((H : Nat) : Int) := by rw [b0 1 (by decide)]; exact hw1
    refine g_iload_n (i := 2) rfl rfl ?_
    refine g_aload_n (i := 0) rfl rfl ?_
    refine g_getfield (v := .int (J 0)) rfl hr (by decide) rfl ?_
    refine g_icmp_ge 44 rfl rfl (fun _ => ?_) (fun hc => absurd hc (by rw [i_le, j0, ek]; omega))
    have key := hQ h E (by rw [show strT 0 v = [] from rfl, List.append_nil]; exact P)
    rw [show v = W by omega]
    exact key
  | succ f ih =>
    intro v h L hv hv1 hl E P hQ
    have ek := ofN_toInt (n := v) (by omega)
    obtain ⟨J, fc, hr, b0, b6, h76, -⟩ := id P
    have j0 : (J 0).toInt = ((W : Nat) : Int) := by rw [b0 0 (by decide)]; exact hw0
    have j1 : (J 1).toInt = ((H : Nat) : Int) := by rw [b0 1 (by decide)]; exact hw1
    rw [show strT (f + 1) v = (1000 + 100 * v) :: strT f (v + 1) from rfl] at hl hQ
    have hl5 := hl
    rw [List.length_cons] at hl5
    refine g_iload_n (i := 2) rfl rfl ?_
    refine g_aload_n (i := 0) rfl rfl ?_
    refine g_getfield (v := .int (J 0)) rfl hr (by decide) rfl ?_
    refine g_icmp_ge 44 rfl rfl (fun hc => absurd hc (by rw [i_le, j0, ek]; omega)) (fun _ => ?_)
    refine g_aload_n (i := 0) rfl rfl ?_
    refine g_sipush (n := 1000) rfl ?_
    refine g_bipush (n := 100) rfl ?_
    refine g_iload_n (i := 2) rfl rfl ?_
    have k_1 : ((Int8.ofInt 100).toInt32).toInt = 100 := rfl
    refine g_imul rfl ?_
    have t_2 : (((Int8.ofInt 100).toInt32 * (Int32.ofNat v))).toInt = ((100 * v : Nat) : Int) := n_mul (X := 100) (Y := v) (show _ = ((100 : Nat) : Int) from k_1) (show _ = ((v : Nat) : Int) from ek) (by omega)
    have k_3 : ((Int16.ofInt 1000).toInt32).toInt = 1000 := rfl
    refine g_iadd rfl ?_
    have t_4 : ((Int16.ofInt 1000).toInt32 + ((Int8.ofInt 100).toInt32 * (Int32.ofNat v))).toInt = ((1000 + 100 * v : Nat) : Int) := by rw [i_add (by rw [k_3, t_2]; omega) (by rw [k_3, t_2]; omega), k_3, t_2]; omega
    refine g_iload_n (i := 1) rfl rfl ?_
    refine g_iconst (n := 2) rfl ?_
    refine g_iand rfl ?_
    refine g_if_eq 34 rfl rfl (fun hc => absurd hc (by exact hk)) (fun _ => ?_)
    refine g_iconst (n := 1) rfl ?_
    refine g_goto 35 rfl rfl ?_
    have hadd := s_lists1 (d := d) (C := 1000 + 100 * v) (x := ((Int16.ofInt 1000).toInt32 + ((Int8.ofInt 100).toInt32 * (Int32.ofNat v)))) true (by omega) P (by omega) (of_b (show (((Int16.ofInt 1000).toInt32 + ((Int8.ofInt 100).toInt32 * (Int32.ofNat v)))).toInt = ((1000 + 100 * v : Nat) : Int) by rw [t_4] <;> omega) (by omega))
    refine g_virt2 (Qc := fun r h' => r = none ∧ rcP h' (L ++ [1000 + 100 * v]) J0 ∧ rsE h h') rfl (by decide) rfl hr rfl (Nat.le_of_ble_eq_true rfl) (hadd) (fun r h9 hq9 => ?_)
    obtain ⟨rfl, P1, E1⟩ := hq9
    refine g_iinc (i := 2) (L1 := [some (.ref 60), some (.int kd), some (.int ((Int32.ofNat v) + Int32.ofInt 1)), o3, o4]) rfl rfl rfl ?_
    rw [ofN_add (by omega)]
    refine g_goto 7 rfl rfl ?_
    exact ih (v + 1) h9 (L ++ [1000 + 100 * v]) (by omega) (by omega) (by rw [List.length_append]; rw [List.length_cons] at hl; show L.length + 1 + _ ≤ 644; omega) (rsE_tr E E1) P1 (fun h' e p => hQ h' e (by rw [List.append_assoc] at p; exact p))
theorem s_lm_al {d : Nat} {h0 : sHp} {W H : Nat} {J0 : Nat → Int32} {kd : Int32} {Q : Option Value → sHp → Prop} (hd : 2 ≤ d) (g : gdM J0 W H) {o3 o4 : Option Value} (hk : ¬ (kd &&& (Int8.ofInt 16).toInt32 = 0)) : ∀ (f v : Nat) (h : sHp) (L : List Nat), v + f = H → 1 ≤ v → L.length + (alT f v).length ≤ 644 → rsE h0 h → rcP h L J0 → (∀ (h' : sHp), rsE h0 h' → rcP h' (L ++ alT f v) J0 → sGo none 232 d 165 [some (.ref 60), some (.int kd), some (.int (Int32.ofNat H)), o3, o4] [] h' Q) → sGo none 232 d 127 [some (.ref 60), some (.int kd), some (.int (Int32.ofNat v)), o3, o4] [] h Q := by
  obtain ⟨gw, gh, w2, w8, h2, h8⟩ := id g
  have hw0 : (J0 0).toInt = ((W : Nat) : Int) := by rw [gw]; exact ofN_toInt (by omega)
  have hw1 : (J0 1).toInt = ((H : Nat) : Int) := by rw [gh]; exact ofN_toInt (by omega)
  intro f
  induction f with
  | zero =>
    intro v h L hv hv1 hl E P hQ
    have ek := ofN_toInt (n := v) (by omega)
    obtain ⟨J, fc, hr, b0, b6, h76, -⟩ := id P
    have j0 : (J 0).toInt = ((W : Nat) : Int) := by rw [b0 0 (by decide)]; exact hw0
    have j1 : (J 1).toInt = ((H : Nat) : Int) := by rw [b0 1 (by decide)]; exact hw1
    refine g_iload_n (i := 2) rfl rfl ?_
    refine g_aload_n (i := 0) rfl rfl ?_
    refine g_getfield (v := .int (J 1)) rfl hr (by decide) rfl ?_
    refine g_icmp_ge 165 rfl rfl (fun _ => ?_) (fun hc => absurd hc (by rw [i_le, j1, ek]; omega))
    have key := hQ h E (by rw [show alT 0 v = [] from rfl, List.append_nil]; exact P)
    rw [show v = H by omega]
    exact key
  | succ f ih =>
    intro v h L hv hv1 hl E P hQ
    have ek := ofN_toInt (n := v) (by omega)
    obtain ⟨J, fc, hr, b0, b6, h76, -⟩ := id P
    have j0 : (J 0).toInt = ((W : Nat) : Int) := by rw [b0 0 (by decide)]; exact hw0
    have j1 : (J 1).toInt = ((H : Nat) : Int) := by rw [b0 1 (by decide)]; exact hw1
    rw [show alT (f + 1) v = (4000 + 100 * v) :: alT f (v + 1) from rfl] at hl hQ
    have hl5 := hl
    rw [List.length_cons] at hl5
    refine g_iload_n (i := 2) rfl rfl ?_
    refine g_aload_n (i := 0) rfl rfl ?_
    refine g_getfield (v := .int (J 1)) rfl hr (by decide) rfl ?_
    refine g_icmp_ge 165 rfl rfl (fun hc => absurd hc (by rw [i_le, j1, ek]; omega)) (fun _ => ?_)
    refine g_aload_n (i := 0) rfl rfl ?_
    refine g_sipush (n := 4000) rfl ?_
    refine g_bipush (n := 100) rfl ?_
    refine g_iload_n (i := 2) rfl rfl ?_
    have k_1 : ((Int8.ofInt 100).toInt32).toInt = 100 := rfl
    refine g_imul rfl ?_
    have t_2 : (((Int8.ofInt 100).toInt32 * (Int32.ofNat v))).toInt = ((100 * v : Nat) : Int) := n_mul (X := 100) (Y := v) (show _ = ((100 : Nat) : Int) from k_1) (show _ = ((v : Nat) : Int) from ek) (by omega)
    have k_3 : ((Int16.ofInt 4000).toInt32).toInt = 4000 := rfl
    refine g_iadd rfl ?_
    have t_4 : ((Int16.ofInt 4000).toInt32 + ((Int8.ofInt 100).toInt32 * (Int32.ofNat v))).toInt = ((4000 + 100 * v : Nat) : Int) := by rw [i_add (by rw [k_3, t_2]; omega) (by rw [k_3, t_2]; omega), k_3, t_2]; omega
    refine g_iload_n (i := 1) rfl rfl ?_
    refine g_bipush (n := 16) rfl ?_
    refine g_iand rfl ?_
    refine g_if_eq 155 rfl rfl (fun hc => absurd hc (by exact hk)) (fun _ => ?_)
    refine g_iconst (n := 1) rfl ?_
    refine g_goto 156 rfl rfl ?_
    have hadd := s_lists1 (d := d) (C := 4000 + 100 * v) (x := ((Int16.ofInt 4000).toInt32 + ((Int8.ofInt 100).toInt32 * (Int32.ofNat v)))) true (by omega) P (by omega) (of_b (show (((Int16.ofInt 4000).toInt32 + ((Int8.ofInt 100).toInt32 * (Int32.ofNat v)))).toInt = ((4000 + 100 * v : Nat) : Int) by rw [t_4] <;> omega) (by omega))
    refine g_virt2 (Qc := fun r h' => r = none ∧ rcP h' (L ++ [4000 + 100 * v]) J0 ∧ rsE h h') rfl (by decide) rfl hr rfl (Nat.le_of_ble_eq_true rfl) (hadd) (fun r h9 hq9 => ?_)
    obtain ⟨rfl, P1, E1⟩ := hq9
    refine g_iinc (i := 2) (L1 := [some (.ref 60), some (.int kd), some (.int ((Int32.ofNat v) + Int32.ofInt 1)), o3, o4]) rfl rfl rfl ?_
    rw [ofN_add (by omega)]
    refine g_goto 127 rfl rfl ?_
    exact ih (v + 1) h9 (L ++ [4000 + 100 * v]) (by omega) (by omega) (by rw [List.length_append]; rw [List.length_cons] at hl; show L.length + 1 + _ ≤ 644; omega) (rsE_tr E E1) P1 (fun h' e p => hQ h' e (by rw [List.append_assoc] at p; exact p))
theorem s_lm_bn3 {d : Nat} {h0 : sHp} {W H : Nat} {J0 : Nat → Int32} {kd : Int32} {Q : Option Value → sHp → Prop} (hd : 2 ≤ d) (g : gdM J0 W H) {a b : Nat} (ha : a ≤ 8) (hb : b ≤ 8) {b4 : Bool} (hk : b4 = true ↔ ¬ (kd &&& Int32.ofInt 4 = 0)) : ∀ (f v : Nat) (h : sHp) (L : List Nat), v + f = W + 1 → True → L.length + (bnT3 f v a b).length ≤ 644 → rsE h0 h → rcP h L J0 → (∀ (h' : sHp), rsE h0 h' → rcP h' (L ++ (if b4 = true then bnT3 f v a b else [])) J0 → sGo none 232 d 113 [some (.ref 60), some (.int kd), some (.int (Int32.ofNat a)), some (.int (Int32.ofNat b)), some (.int (Int32.ofNat (W + 1)))] [] h' Q) → sGo none 232 d 67 [some (.ref 60), some (.int kd), some (.int (Int32.ofNat a)), some (.int (Int32.ofNat b)), some (.int (Int32.ofNat v))] [] h Q := by
  obtain ⟨gw, gh, w2, w8, h2, h8⟩ := id g
  have hw0 : (J0 0).toInt = ((W : Nat) : Int) := by rw [gw]; exact ofN_toInt (by omega)
  have hw1 : (J0 1).toInt = ((H : Nat) : Int) := by rw [gh]; exact ofN_toInt (by omega)
  intro f
  induction f with
  | zero =>
    intro v h L hv hv1 hl E P hQ
    have ek := ofN_toInt (n := v) (by omega)
    obtain ⟨J, fc, hr, b0, b6, h76, -⟩ := id P
    have j0 : (J 0).toInt = ((W : Nat) : Int) := by rw [b0 0 (by decide)]; exact hw0
    have j1 : (J 1).toInt = ((H : Nat) : Int) := by rw [b0 1 (by decide)]; exact hw1
    refine g_iload (i := 4) rfl rfl ?_
    refine g_aload_n (i := 0) rfl rfl ?_
    refine g_getfield (v := .int (J 0)) rfl hr (by decide) rfl ?_
    refine g_icmp_gt 113 rfl rfl (fun _ => ?_) (fun hc => absurd hc (by rw [i_lt, j0, ek]; omega))
    have key := hQ h E (by rw [show (if b4 = true then bnT3 0 v a b else []) = [] from by cases b4 <;> rfl, List.append_nil]; exact P)
    rw [show v = W + 1 by omega]
    exact key
  | succ f ih =>
    intro v h L hv hv1 hl E P hQ
    have ek := ofN_toInt (n := v) (by omega)
    obtain ⟨J, fc, hr, b0, b6, h76, -⟩ := id P
    have j0 : (J 0).toInt = ((W : Nat) : Int) := by rw [b0 0 (by decide)]; exact hw0
    have j1 : (J 1).toInt = ((H : Nat) : Int) := by rw [b0 1 (by decide)]; exact hw1
    rw [show bnT3 (f + 1) v a b = (2000 + 100 * a + 10 * b + v) :: bnT3 f (v + 1) a b from rfl] at hl hQ
    have ea := ofN_toInt (n := a) (by omega)
    have eb := ofN_toInt (n := b) (by omega)
    have hl5 := hl
    rw [List.length_cons] at hl5
    refine g_iload (i := 4) rfl rfl ?_
    refine g_aload_n (i := 0) rfl rfl ?_
    refine g_getfield (v := .int (J 0)) rfl hr (by decide) rfl ?_
    refine g_icmp_gt 113 rfl rfl (fun hc => absurd hc (by rw [i_lt, j0, ek]; omega)) (fun _ => ?_)
    refine g_aload_n (i := 0) rfl rfl ?_
    refine g_sipush (n := 2000) rfl ?_
    refine g_bipush (n := 100) rfl ?_
    refine g_iload_n (i := 2) rfl rfl ?_
    have k_1 : ((Int8.ofInt 100).toInt32).toInt = 100 := rfl
    refine g_imul rfl ?_
    have t_2 : (((Int8.ofInt 100).toInt32 * (Int32.ofNat a))).toInt = ((100 * a : Nat) : Int) := n_mul (X := 100) (Y := a) (show _ = ((100 : Nat) : Int) from k_1) (show _ = ((a : Nat) : Int) from ea) (by omega)
    have k_3 : ((Int16.ofInt 2000).toInt32).toInt = 2000 := rfl
    refine g_iadd rfl ?_
    have t_4 : ((Int16.ofInt 2000).toInt32 + ((Int8.ofInt 100).toInt32 * (Int32.ofNat a))).toInt = ((2000 + 100 * a : Nat) : Int) := by rw [i_add (by rw [k_3, t_2]; omega) (by rw [k_3, t_2]; omega), k_3, t_2]; omega
    refine g_bipush (n := 10) rfl ?_
    refine g_iload_n (i := 3) rfl rfl ?_
    have k_5 : ((Int8.ofInt 10).toInt32).toInt = 10 := rfl
    refine g_imul rfl ?_
    have t_6 : (((Int8.ofInt 10).toInt32 * (Int32.ofNat b))).toInt = ((10 * b : Nat) : Int) := n_mul (X := 10) (Y := b) (show _ = ((10 : Nat) : Int) from k_5) (show _ = ((b : Nat) : Int) from eb) (by omega)
    refine g_iadd rfl ?_
    have t_7 : (((Int16.ofInt 2000).toInt32 + ((Int8.ofInt 100).toInt32 * (Int32.ofNat a))) + ((Int8.ofInt 10).toInt32 * (Int32.ofNat b))).toInt = ((2000 + 100 * a + 10 * b : Nat) : Int) := by rw [i_add (by rw [t_4, t_6]; omega) (by rw [t_4, t_6]; omega), t_4, t_6]; omega
    refine g_iload (i := 4) rfl rfl ?_
    refine g_iadd rfl ?_
    have t_8 : ((((Int16.ofInt 2000).toInt32 + ((Int8.ofInt 100).toInt32 * (Int32.ofNat a))) + ((Int8.ofInt 10).toInt32 * (Int32.ofNat b))) + (Int32.ofNat v)).toInt = ((2000 + 100 * a + 10 * b + v : Nat) : Int) := by rw [i_add (by rw [t_7, ek]; omega) (by rw [t_7, ek]; omega), t_7, ek]; omega
    refine g_iload_n (i := 1) rfl rfl ?_
    refine g_iconst (n := 4) rfl ?_
    refine g_iand rfl ?_
    by_cases hfl : b4 = true
    · skip
      refine g_if_eq 103 rfl rfl (fun hc => absurd hc (by exact hk.mp hfl)) (fun _ => ?_)
      refine g_iconst (n := 1) rfl ?_
      refine g_goto 104 rfl rfl ?_
      have hadd := s_lists1 (d := d) (C := 2000 + 100 * a + 10 * b + v) (x := ((((Int16.ofInt 2000).toInt32 + ((Int8.ofInt 100).toInt32 * (Int32.ofNat a))) + ((Int8.ofInt 10).toInt32 * (Int32.ofNat b))) + (Int32.ofNat v))) true (by omega) P (by omega) (of_b (show (((((Int16.ofInt 2000).toInt32 + ((Int8.ofInt 100).toInt32 * (Int32.ofNat a))) + ((Int8.ofInt 10).toInt32 * (Int32.ofNat b))) + (Int32.ofNat v))).toInt = ((2000 + 100 * a + 10 * b + v : Nat) : Int) by rw [t_8] <;> omega) (by omega))
      refine g_virt2 (Qc := fun r h' => r = none ∧ rcP h' (L ++ [2000 + 100 * a + 10 * b + v]) J0 ∧ rsE h h') rfl (by decide) rfl hr rfl (Nat.le_of_ble_eq_true rfl) (hadd) (fun r h9 hq9 => ?_)
      obtain ⟨rfl, P1, E1⟩ := hq9
      refine g_iinc (i := 4) (L1 := [some (.ref 60), some (.int kd), some (.int (Int32.ofNat a)), some (.int (Int32.ofNat b)), some (.int ((Int32.ofNat v) + Int32.ofInt 1))]) rfl rfl rfl ?_
      rw [ofN_add (by omega)]
      refine g_goto 67 rfl rfl ?_
      exact ih (v + 1) h9 (L ++ [2000 + 100 * a + 10 * b + v]) (by omega) (by omega) (by rw [List.length_append]; rw [List.length_cons] at hl; show L.length + 1 + _ ≤ 644; omega) (rsE_tr E E1) P1 (fun h' e p => hQ h' e (by rw [if_pos hfl] at p ⊢; rw [List.append_assoc] at p; exact p))
    · skip
      refine g_if_eq 103 rfl rfl (fun _ => ?_) (fun hc => absurd hc (by exact fun z => hfl (hk.mpr z)))
      refine g_iconst (n := 0) rfl ?_
      have hadd := s_lists1 (d := d) (C := 2000 + 100 * a + 10 * b + v) (x := ((((Int16.ofInt 2000).toInt32 + ((Int8.ofInt 100).toInt32 * (Int32.ofNat a))) + ((Int8.ofInt 10).toInt32 * (Int32.ofNat b))) + (Int32.ofNat v))) false (by omega) P (by omega) (of_b (show (((((Int16.ofInt 2000).toInt32 + ((Int8.ofInt 100).toInt32 * (Int32.ofNat a))) + ((Int8.ofInt 10).toInt32 * (Int32.ofNat b))) + (Int32.ofNat v))).toInt = ((2000 + 100 * a + 10 * b + v : Nat) : Int) by rw [t_8] <;> omega) (by omega))
      refine g_virt2 (Qc := fun r h' => r = none ∧ rcP h' (L ++ []) J0 ∧ rsE h h') rfl (by decide) rfl hr rfl (Nat.le_of_ble_eq_true rfl) (hadd) (fun r h9 hq9 => ?_)
      obtain ⟨rfl, P1, E1⟩ := hq9
      refine g_iinc (i := 4) (L1 := [some (.ref 60), some (.int kd), some (.int (Int32.ofNat a)), some (.int (Int32.ofNat b)), some (.int ((Int32.ofNat v) + Int32.ofInt 1))]) rfl rfl rfl ?_
      rw [ofN_add (by omega)]
      refine g_goto 67 rfl rfl ?_
      rw [List.append_nil] at P1
      exact ih (v + 1) h9 L (by omega) (by omega) (by rw [List.length_cons] at hl; omega) (rsE_tr E E1) P1 (fun h' e p => hQ h' e (by rw [if_neg hfl] at p ⊢; exact p))
theorem s_lm_bn2 {d : Nat} {h0 : sHp} {W H : Nat} {J0 : Nat → Int32} {kd : Int32} {Q : Option Value → sHp → Prop} (hd : 2 ≤ d) (g : gdM J0 W H) {a : Nat} (ha : a ≤ 8) {b4 : Bool} (hk : b4 = true ↔ ¬ (kd &&& Int32.ofInt 4 = 0)) : ∀ (f v : Nat) (o4 : Option Value) (h : sHp) (L : List Nat), v + f = H → 1 ≤ v → L.length + (bnT2 W f v a).length ≤ 644 → rsE h0 h → rcP h L J0 → (∀ (h' : sHp) (o4 : Option Value), rsE h0 h' → rcP h' (L ++ (if b4 = true then bnT2 W f v a else [])) J0 → sGo none 232 d 119 [some (.ref 60), some (.int kd), some (.int (Int32.ofNat a)), some (.int (Int32.ofNat H)), o4] [] h' Q) → sGo none 232 d 56 [some (.ref 60), some (.int kd), some (.int (Int32.ofNat a)), some (.int (Int32.ofNat v)), o4] [] h Q := by
  obtain ⟨gw, gh, w2, w8, h2, h8⟩ := id g
  have hw0 : (J0 0).toInt = ((W : Nat) : Int) := by rw [gw]; exact ofN_toInt (by omega)
  have hw1 : (J0 1).toInt = ((H : Nat) : Int) := by rw [gh]; exact ofN_toInt (by omega)
  intro f
  induction f with
  | zero =>
    intro v o4 h L hv hv1 hl E P hQ
    have ek := ofN_toInt (n := v) (by omega)
    obtain ⟨J, fc, hr, b0, b6, h76, -⟩ := id P
    have j0 : (J 0).toInt = ((W : Nat) : Int) := by rw [b0 0 (by decide)]; exact hw0
    have j1 : (J 1).toInt = ((H : Nat) : Int) := by rw [b0 1 (by decide)]; exact hw1
    refine g_iload_n (i := 3) rfl rfl ?_
    refine g_aload_n (i := 0) rfl rfl ?_
    refine g_getfield (v := .int (J 1)) rfl hr (by decide) rfl ?_
    refine g_icmp_ge 119 rfl rfl (fun _ => ?_) (fun hc => absurd hc (by rw [i_le, j1, ek]; omega))
    have key := hQ h o4 E (by rw [show (if b4 = true then bnT2 W 0 v a else []) = [] from by cases b4 <;> rfl, List.append_nil]; exact P)
    rw [show v = H by omega]
    exact key
  | succ f ih =>
    intro v o4 h L hv hv1 hl E P hQ
    have ek := ofN_toInt (n := v) (by omega)
    obtain ⟨J, fc, hr, b0, b6, h76, -⟩ := id P
    have j0 : (J 0).toInt = ((W : Nat) : Int) := by rw [b0 0 (by decide)]; exact hw0
    have j1 : (J 1).toInt = ((H : Nat) : Int) := by rw [b0 1 (by decide)]; exact hw1
    rw [show bnT2 W (f + 1) v a = bnT3 (W + 1) 0 a v ++ bnT2 W f (v + 1) a from rfl] at hl hQ
    have ea := ofN_toInt (n := a) (by omega)
    refine g_iload_n (i := 3) rfl rfl ?_
    refine g_aload_n (i := 0) rfl rfl ?_
    refine g_getfield (v := .int (J 1)) rfl hr (by decide) rfl ?_
    refine g_icmp_ge 119 rfl rfl (fun hc => absurd hc (by rw [i_le, j1, ek]; omega)) (fun _ => ?_)
    refine g_iconst (n := 0) rfl ?_
    refine g_istore (i := 4) (L1 := [some (.ref 60), some (.int kd), some (.int (Int32.ofNat a)), some (.int (Int32.ofNat v)), some (.int (Int32.ofInt 0))]) rfl (Nat.le_of_ble_eq_true rfl) rfl ?_
    have hl2 := hl
    rw [List.length_append] at hl2
    refine s_lm_bn3 hd g ha (show v ≤ 8 by omega) hk (W + 1) 0 h L (by omega) trivial (by omega) E P (fun h2 E2 P2 => ?_)
    refine g_iinc (i := 3) (L1 := [some (.ref 60), some (.int kd), some (.int (Int32.ofNat a)), some (.int ((Int32.ofNat v) + Int32.ofInt 1)), some (.int (Int32.ofNat (W + 1)))]) rfl rfl rfl ?_
    rw [ofN_add (by omega)]
    refine g_goto 56 rfl rfl ?_
    exact ih (v + 1) _ h2 (L ++ (if b4 = true then bnT3 (W + 1) 0 a v else [])) (by omega) (by omega) (by have := bif_len (b := b4) (L := bnT3 (W + 1) 0 a v); rw [List.length_append]; omega) E2 P2 (fun h' x0 e p => hQ h' x0 e (by rw [List.append_assoc, bif_app] at p; exact p))
theorem s_lm_bn1 {d : Nat} {h0 : sHp} {W H : Nat} {J0 : Nat → Int32} {kd : Int32} {Q : Option Value → sHp → Prop} (hd : 2 ≤ d) (g : gdM J0 W H) {b4 : Bool} (hk : b4 = true ↔ ¬ (kd &&& Int32.ofInt 4 = 0)) : ∀ (f v : Nat) (o3 : Option Value) (o4 : Option Value) (h : sHp) (L : List Nat), v + f = W + 1 → True → L.length + (bnT1 W H f v).length ≤ 644 → rsE h0 h → rcP h L J0 → (∀ (h' : sHp) (o3 : Option Value) (o4 : Option Value), rsE h0 h' → rcP h' (L ++ (if b4 = true then bnT1 W H f v else [])) J0 → sGo none 232 d 125 [some (.ref 60), some (.int kd), some (.int (Int32.ofNat (W + 1))), o3, o4] [] h' Q) → sGo none 232 d 46 [some (.ref 60), some (.int kd), some (.int (Int32.ofNat v)), o3, o4] [] h Q := by
  obtain ⟨gw, gh, w2, w8, h2, h8⟩ := id g
  have hw0 : (J0 0).toInt = ((W : Nat) : Int) := by rw [gw]; exact ofN_toInt (by omega)
  have hw1 : (J0 1).toInt = ((H : Nat) : Int) := by rw [gh]; exact ofN_toInt (by omega)
  intro f
  induction f with
  | zero =>
    intro v o3 o4 h L hv hv1 hl E P hQ
    have ek := ofN_toInt (n := v) (by omega)
    obtain ⟨J, fc, hr, b0, b6, h76, -⟩ := id P
    have j0 : (J 0).toInt = ((W : Nat) : Int) := by rw [b0 0 (by decide)]; exact hw0
    have j1 : (J 1).toInt = ((H : Nat) : Int) := by rw [b0 1 (by decide)]; exact hw1
    refine g_iload_n (i := 2) rfl rfl ?_
    refine g_aload_n (i := 0) rfl rfl ?_
    refine g_getfield (v := .int (J 0)) rfl hr (by decide) rfl ?_
    refine g_icmp_gt 125 rfl rfl (fun _ => ?_) (fun hc => absurd hc (by rw [i_lt, j0, ek]; omega))
    have key := hQ h o3 o4 E (by rw [show (if b4 = true then bnT1 W H 0 v else []) = [] from by cases b4 <;> rfl, List.append_nil]; exact P)
    rw [show v = W + 1 by omega]
    exact key
  | succ f ih =>
    intro v o3 o4 h L hv hv1 hl E P hQ
    have ek := ofN_toInt (n := v) (by omega)
    obtain ⟨J, fc, hr, b0, b6, h76, -⟩ := id P
    have j0 : (J 0).toInt = ((W : Nat) : Int) := by rw [b0 0 (by decide)]; exact hw0
    have j1 : (J 1).toInt = ((H : Nat) : Int) := by rw [b0 1 (by decide)]; exact hw1
    rw [show bnT1 W H (f + 1) v = bnT2 W (H - 1) 1 v ++ bnT1 W H f (v + 1) from rfl] at hl hQ
    refine g_iload_n (i := 2) rfl rfl ?_
    refine g_aload_n (i := 0) rfl rfl ?_
    refine g_getfield (v := .int (J 0)) rfl hr (by decide) rfl ?_
    refine g_icmp_gt 125 rfl rfl (fun hc => absurd hc (by rw [i_lt, j0, ek]; omega)) (fun _ => ?_)
    refine g_iconst (n := 1) rfl ?_
    refine g_istore_n (i := 3) (L1 := [some (.ref 60), some (.int kd), some (.int (Int32.ofNat v)), some (.int (Int32.ofInt 1)), o4]) rfl (Nat.le_of_ble_eq_true rfl) rfl ?_
    have hl2 := hl
    rw [List.length_append] at hl2
    refine s_lm_bn2 hd g (show v ≤ 8 by omega) hk (H - 1) 1 _ h L (by omega) (by omega) (by omega) E P (fun h2 o5 E2 P2 => ?_)
    refine g_iinc (i := 2) (L1 := [some (.ref 60), some (.int kd), some (.int ((Int32.ofNat v) + Int32.ofInt 1)), some (.int (Int32.ofNat H)), o5]) rfl rfl rfl ?_
    rw [ofN_add (by omega)]
    refine g_goto 46 rfl rfl ?_
    exact ih (v + 1) _ _ h2 (L ++ (if b4 = true then bnT2 W (H - 1) 1 v else [])) (by omega) (by omega) (by have := bif_len (b := b4) (L := bnT2 W (H - 1) 1 v); rw [List.length_append]; omega) E2 P2 (fun h' x0 x1 e p => hQ h' x0 x1 e (by rw [List.append_assoc, bif_app] at p; exact p))
theorem s_lm_fr2 {d : Nat} {h0 : sHp} {W H : Nat} {J0 : Nat → Int32} {kd : Int32} {Q : Option Value → sHp → Prop} (hd : 2 ≤ d) (g : gdM J0 W H) {a : Nat} {o4 : Option Value} (ha : a ≤ 8) {b32 : Bool} (hk : b32 = true ↔ ¬ (kd &&& (Int8.ofInt 32).toInt32 = 0)) : ∀ (f v : Nat) (h : sHp) (L : List Nat), v + f = H + 1 → 1 ≤ v → L.length + (frT2 W H f v a).length ≤ 644 → rsE h0 h → rcP h L J0 → (∀ (h' : sHp), rsE h0 h' → rcP h' (L ++ (if b32 = true then frT2 W H f v a else [])) J0 → sGo none 232 d 236 [some (.ref 60), some (.int kd), some (.int (Int32.ofNat a)), some (.int (Int32.ofNat (H + 1))), o4] [] h' Q) → sGo none 232 d 177 [some (.ref 60), some (.int kd), some (.int (Int32.ofNat a)), some (.int (Int32.ofNat v)), o4] [] h Q := by
  obtain ⟨gw, gh, w2, w8, h2, h8⟩ := id g
  have hw0 : (J0 0).toInt = ((W : Nat) : Int) := by rw [gw]; exact ofN_toInt (by omega)
  have hw1 : (J0 1).toInt = ((H : Nat) : Int) := by rw [gh]; exact ofN_toInt (by omega)
  intro f
  induction f with
  | zero =>
    intro v h L hv hv1 hl E P hQ
    have ek := ofN_toInt (n := v) (by omega)
    obtain ⟨J, fc, hr, b0, b6, h76, -⟩ := id P
    have j0 : (J 0).toInt = ((W : Nat) : Int) := by rw [b0 0 (by decide)]; exact hw0
    have j1 : (J 1).toInt = ((H : Nat) : Int) := by rw [b0 1 (by decide)]; exact hw1
    refine g_iload_n (i := 3) rfl rfl ?_
    refine g_aload_n (i := 0) rfl rfl ?_
    refine g_getfield (v := .int (J 1)) rfl hr (by decide) rfl ?_
    refine g_icmp_gt 236 rfl rfl (fun _ => ?_) (fun hc => absurd hc (by rw [i_lt, j1, ek]; omega))
    have key := hQ h E (by rw [show (if b32 = true then frT2 W H 0 v a else []) = [] from by cases b32 <;> rfl, List.append_nil]; exact P)
    rw [show v = H + 1 by omega]
    exact key
  | succ f ih =>
    intro v h L hv hv1 hl E P hQ
    have ek := ofN_toInt (n := v) (by omega)
    obtain ⟨J, fc, hr, b0, b6, h76, -⟩ := id P
    have j0 : (J 0).toInt = ((W : Nat) : Int) := by rw [b0 0 (by decide)]; exact hw0
    have j1 : (J 1).toInt = ((H : Nat) : Int) := by rw [b0 1 (by decide)]; exact hw1
    rw [show frT2 W H (f + 1) v a = (if a < W ∨ v < H then [5000 + 100 * a + 10 * v] else []) ++ frT2 W H f (v + 1) a from rfl] at hl hQ
    have ea := ofN_toInt (n := a) (by omega)
    have hl3 : L.length < 999 := by omega
    refine g_iload_n (i := 3) rfl rfl ?_
    refine g_aload_n (i := 0) rfl rfl ?_
    refine g_getfield (v := .int (J 1)) rfl hr (by decide) rfl ?_
    refine g_icmp_gt 236 rfl rfl (fun hc => absurd hc (by rw [i_lt, j1, ek]; omega)) (fun _ => ?_)
    refine g_aload_n (i := 0) rfl rfl ?_
    refine g_sipush (n := 5000) rfl ?_
    refine g_bipush (n := 100) rfl ?_
    refine g_iload_n (i := 2) rfl rfl ?_
    have k_1 : ((Int8.ofInt 100).toInt32).toInt = 100 := rfl
    refine g_imul rfl ?_
    have t_2 : (((Int8.ofInt 100).toInt32 * (Int32.ofNat a))).toInt = ((100 * a : Nat) : Int) := n_mul (X := 100) (Y := a) (show _ = ((100 : Nat) : Int) from k_1) (show _ = ((a : Nat) : Int) from ea) (by omega)
    have k_3 : ((Int16.ofInt 5000).toInt32).toInt = 5000 := rfl
    refine g_iadd rfl ?_
    have t_4 : ((Int16.ofInt 5000).toInt32 + ((Int8.ofInt 100).toInt32 * (Int32.ofNat a))).toInt = ((5000 + 100 * a : Nat) : Int) := by rw [i_add (by rw [k_3, t_2]; omega) (by rw [k_3, t_2]; omega), k_3, t_2]; omega
    refine g_bipush (n := 10) rfl ?_
    refine g_iload_n (i := 3) rfl rfl ?_
    have k_5 : ((Int8.ofInt 10).toInt32).toInt = 10 := rfl
    refine g_imul rfl ?_
    have t_6 : (((Int8.ofInt 10).toInt32 * (Int32.ofNat v))).toInt = ((10 * v : Nat) : Int) := n_mul (X := 10) (Y := v) (show _ = ((10 : Nat) : Int) from k_5) (show _ = ((v : Nat) : Int) from ek) (by omega)
    refine g_iadd rfl ?_
    have t_7 : (((Int16.ofInt 5000).toInt32 + ((Int8.ofInt 100).toInt32 * (Int32.ofNat a))) + ((Int8.ofInt 10).toInt32 * (Int32.ofNat v))).toInt = ((5000 + 100 * a + 10 * v : Nat) : Int) := by rw [i_add (by rw [t_4, t_6]; omega) (by rw [t_4, t_6]; omega), t_4, t_6]; omega
    refine g_iload_n (i := 1) rfl rfl ?_
    refine g_bipush (n := 32) rfl ?_
    refine g_iand rfl ?_
    by_cases hfl : b32 = true
    · skip
      refine g_if_eq 226 rfl rfl (fun hc => absurd hc (by exact hk.mp hfl)) (fun _ => ?_)
      refine g_iload_n (i := 2) rfl rfl ?_
      refine g_aload_n (i := 0) rfl rfl ?_
      refine g_getfield (v := .int (J 0)) rfl hr (by decide) rfl ?_
      refine g_icmp_lt 222 rfl rfl (fun c_8 => ?_) (fun c_8 => ?_)
      · skip
        rw [i_lt, ea, j0] at c_8
        refine g_iconst (n := 1) rfl ?_
        refine g_goto 227 rfl rfl ?_
        have hadd := s_lists1 (d := d) (C := 5000 + 100 * a + 10 * v) (x := (((Int16.ofInt 5000).toInt32 + ((Int8.ofInt 100).toInt32 * (Int32.ofNat a))) + ((Int8.ofInt 10).toInt32 * (Int32.ofNat v)))) true (by omega) P (by omega) (of_b (show ((((Int16.ofInt 5000).toInt32 + ((Int8.ofInt 100).toInt32 * (Int32.ofNat a))) + ((Int8.ofInt 10).toInt32 * (Int32.ofNat v)))).toInt = ((5000 + 100 * a + 10 * v : Nat) : Int) by rw [t_7] <;> omega) (by omega))
        refine g_virt2 (Qc := fun r h' => r = none ∧ rcP h' (L ++ [5000 + 100 * a + 10 * v]) J0 ∧ rsE h h') rfl (by decide) rfl hr rfl (Nat.le_of_ble_eq_true rfl) (hadd) (fun r h9 hq9 => ?_)
        obtain ⟨rfl, P1, E1⟩ := hq9
        refine g_iinc (i := 3) (L1 := [some (.ref 60), some (.int kd), some (.int (Int32.ofNat a)), some (.int ((Int32.ofNat v) + Int32.ofInt 1)), o4]) rfl rfl rfl ?_
        rw [ofN_add (by omega)]
        refine g_goto 177 rfl rfl ?_
        rw [if_pos hfl, if_pos (show a < W ∨ v < H by omega)] at hQ
        rw [if_pos (show a < W ∨ v < H by omega)] at hl
        exact ih (v + 1) h9 (L ++ [5000 + 100 * a + 10 * v]) (by omega) (by omega) (by rw [List.length_append]; rw [List.length_append] at hl; have e1 : [5000 + 100 * a + 10 * v].length = 1 := rfl; omega) (rsE_tr E E1) P1 (fun h' e p => hQ h' e (by rw [if_pos hfl, List.append_assoc] at p; exact p))
      · skip
        rw [i_lt, ea, j0] at c_8
        refine g_iload_n (i := 3) rfl rfl ?_
        refine g_aload_n (i := 0) rfl rfl ?_
        refine g_getfield (v := .int (J 1)) rfl hr (by decide) rfl ?_
        refine g_icmp_ge 226 rfl rfl (fun c_9 => ?_) (fun c_9 => ?_)
        · skip
          rw [i_le, ek, j1] at c_9
          refine g_iconst (n := 0) rfl ?_
          have hadd := s_lists1 (d := d) (C := 5000 + 100 * a + 10 * v) (x := (((Int16.ofInt 5000).toInt32 + ((Int8.ofInt 100).toInt32 * (Int32.ofNat a))) + ((Int8.ofInt 10).toInt32 * (Int32.ofNat v)))) false (by omega) P (by omega) (of_b (show ((((Int16.ofInt 5000).toInt32 + ((Int8.ofInt 100).toInt32 * (Int32.ofNat a))) + ((Int8.ofInt 10).toInt32 * (Int32.ofNat v)))).toInt = ((5000 + 100 * a + 10 * v : Nat) : Int) by rw [t_7] <;> omega) (by omega))
          refine g_virt2 (Qc := fun r h' => r = none ∧ rcP h' (L ++ []) J0 ∧ rsE h h') rfl (by decide) rfl hr rfl (Nat.le_of_ble_eq_true rfl) (hadd) (fun r h9 hq9 => ?_)
          obtain ⟨rfl, P1, E1⟩ := hq9
          refine g_iinc (i := 3) (L1 := [some (.ref 60), some (.int kd), some (.int (Int32.ofNat a)), some (.int ((Int32.ofNat v) + Int32.ofInt 1)), o4]) rfl rfl rfl ?_
          rw [ofN_add (by omega)]
          refine g_goto 177 rfl rfl ?_
          rw [List.append_nil] at P1
          rw [if_pos hfl, if_neg (show ¬ (a < W ∨ v < H) by omega), List.nil_append] at hQ
          rw [if_neg (show ¬ (a < W ∨ v < H) by omega), List.nil_append] at hl
          exact ih (v + 1) h9 L (by omega) (by omega) hl (rsE_tr E E1) P1 (fun h' e p => hQ h' e (by rw [if_pos hfl] at p; exact p))
        · skip
          rw [i_le, ek, j1] at c_9
          refine g_iconst (n := 1) rfl ?_
          refine g_goto 227 rfl rfl ?_
          have hadd := s_lists1 (d := d) (C := 5000 + 100 * a + 10 * v) (x := (((Int16.ofInt 5000).toInt32 + ((Int8.ofInt 100).toInt32 * (Int32.ofNat a))) + ((Int8.ofInt 10).toInt32 * (Int32.ofNat v)))) true (by omega) P (by omega) (of_b (show ((((Int16.ofInt 5000).toInt32 + ((Int8.ofInt 100).toInt32 * (Int32.ofNat a))) + ((Int8.ofInt 10).toInt32 * (Int32.ofNat v)))).toInt = ((5000 + 100 * a + 10 * v : Nat) : Int) by rw [t_7] <;> omega) (by omega))
          refine g_virt2 (Qc := fun r h' => r = none ∧ rcP h' (L ++ [5000 + 100 * a + 10 * v]) J0 ∧ rsE h h') rfl (by decide) rfl hr rfl (Nat.le_of_ble_eq_true rfl) (hadd) (fun r h9 hq9 => ?_)
          obtain ⟨rfl, P1, E1⟩ := hq9
          refine g_iinc (i := 3) (L1 := [some (.ref 60), some (.int kd), some (.int (Int32.ofNat a)), some (.int ((Int32.ofNat v) + Int32.ofInt 1)), o4]) rfl rfl rfl ?_
          rw [ofN_add (by omega)]
          refine g_goto 177 rfl rfl ?_
          rw [if_pos hfl, if_pos (show a < W ∨ v < H by omega)] at hQ
          rw [if_pos (show a < W ∨ v < H by omega)] at hl
          exact ih (v + 1) h9 (L ++ [5000 + 100 * a + 10 * v]) (by omega) (by omega) (by rw [List.length_append]; rw [List.length_append] at hl; have e1 : [5000 + 100 * a + 10 * v].length = 1 := rfl; omega) (rsE_tr E E1) P1 (fun h' e p => hQ h' e (by rw [if_pos hfl, List.append_assoc] at p; exact p))
    · skip
      refine g_if_eq 226 rfl rfl (fun _ => ?_) (fun hc => absurd hc (by exact fun z => hfl (hk.mpr z)))
      refine g_iconst (n := 0) rfl ?_
      have hadd := s_lists1 (d := d) (C := 5000 + 100 * a + 10 * v) (x := (((Int16.ofInt 5000).toInt32 + ((Int8.ofInt 100).toInt32 * (Int32.ofNat a))) + ((Int8.ofInt 10).toInt32 * (Int32.ofNat v)))) false (by omega) P (by omega) (of_b (show ((((Int16.ofInt 5000).toInt32 + ((Int8.ofInt 100).toInt32 * (Int32.ofNat a))) + ((Int8.ofInt 10).toInt32 * (Int32.ofNat v)))).toInt = ((5000 + 100 * a + 10 * v : Nat) : Int) by rw [t_7] <;> omega) (by omega))
      refine g_virt2 (Qc := fun r h' => r = none ∧ rcP h' (L ++ []) J0 ∧ rsE h h') rfl (by decide) rfl hr rfl (Nat.le_of_ble_eq_true rfl) (hadd) (fun r h9 hq9 => ?_)
      obtain ⟨rfl, P1, E1⟩ := hq9
      refine g_iinc (i := 3) (L1 := [some (.ref 60), some (.int kd), some (.int (Int32.ofNat a)), some (.int ((Int32.ofNat v) + Int32.ofInt 1)), o4]) rfl rfl rfl ?_
      rw [ofN_add (by omega)]
      refine g_goto 177 rfl rfl ?_
      rw [List.append_nil] at P1
      exact ih (v + 1) h9 L (by omega) (by omega) (by rw [List.length_append] at hl; omega) (rsE_tr E E1) P1 (fun h' e p => hQ h' e (by rw [if_neg hfl] at p ⊢; exact p))
theorem s_lm_fr1 {d : Nat} {h0 : sHp} {W H : Nat} {J0 : Nat → Int32} {kd : Int32} {Q : Option Value → sHp → Prop} (hd : 2 ≤ d) (g : gdM J0 W H) {o4 : Option Value} {b32 : Bool} (hk : b32 = true ↔ ¬ (kd &&& (Int8.ofInt 32).toInt32 = 0)) : ∀ (f v : Nat) (o3 : Option Value) (h : sHp) (L : List Nat), v + f = W + 1 → 1 ≤ v → L.length + (frT1 W H f v).length ≤ 644 → rsE h0 h → rcP h L J0 → (∀ (h' : sHp) (o3 : Option Value), rsE h0 h' → rcP h' (L ++ (if b32 = true then frT1 W H f v else [])) J0 → sGo none 232 d 242 [some (.ref 60), some (.int kd), some (.int (Int32.ofNat (W + 1))), o3, o4] [] h' Q) → sGo none 232 d 167 [some (.ref 60), some (.int kd), some (.int (Int32.ofNat v)), o3, o4] [] h Q := by
  obtain ⟨gw, gh, w2, w8, h2, h8⟩ := id g
  have hw0 : (J0 0).toInt = ((W : Nat) : Int) := by rw [gw]; exact ofN_toInt (by omega)
  have hw1 : (J0 1).toInt = ((H : Nat) : Int) := by rw [gh]; exact ofN_toInt (by omega)
  intro f
  induction f with
  | zero =>
    intro v o3 h L hv hv1 hl E P hQ
    have ek := ofN_toInt (n := v) (by omega)
    obtain ⟨J, fc, hr, b0, b6, h76, -⟩ := id P
    have j0 : (J 0).toInt = ((W : Nat) : Int) := by rw [b0 0 (by decide)]; exact hw0
    have j1 : (J 1).toInt = ((H : Nat) : Int) := by rw [b0 1 (by decide)]; exact hw1
    refine g_iload_n (i := 2) rfl rfl ?_
    refine g_aload_n (i := 0) rfl rfl ?_
    refine g_getfield (v := .int (J 0)) rfl hr (by decide) rfl ?_
    refine g_icmp_gt 242 rfl rfl (fun _ => ?_) (fun hc => absurd hc (by rw [i_lt, j0, ek]; omega))
    have key := hQ h o3 E (by rw [show (if b32 = true then frT1 W H 0 v else []) = [] from by cases b32 <;> rfl, List.append_nil]; exact P)
    rw [show v = W + 1 by omega]
    exact key
  | succ f ih =>
    intro v o3 h L hv hv1 hl E P hQ
    have ek := ofN_toInt (n := v) (by omega)
    obtain ⟨J, fc, hr, b0, b6, h76, -⟩ := id P
    have j0 : (J 0).toInt = ((W : Nat) : Int) := by rw [b0 0 (by decide)]; exact hw0
    have j1 : (J 1).toInt = ((H : Nat) : Int) := by rw [b0 1 (by decide)]; exact hw1
    rw [show frT1 W H (f + 1) v = frT2 W H H 1 v ++ frT1 W H f (v + 1) from rfl] at hl hQ
    refine g_iload_n (i := 2) rfl rfl ?_
    refine g_aload_n (i := 0) rfl rfl ?_
    refine g_getfield (v := .int (J 0)) rfl hr (by decide) rfl ?_
    refine g_icmp_gt 242 rfl rfl (fun hc => absurd hc (by rw [i_lt, j0, ek]; omega)) (fun _ => ?_)
    refine g_iconst (n := 1) rfl ?_
    refine g_istore_n (i := 3) (L1 := [some (.ref 60), some (.int kd), some (.int (Int32.ofNat v)), some (.int (Int32.ofInt 1)), o4]) rfl (Nat.le_of_ble_eq_true rfl) rfl ?_
    have hl2 := hl
    rw [List.length_append] at hl2
    refine s_lm_fr2 hd g (show v ≤ 8 by omega) hk H 1 h L (by omega) (by omega) (by omega) E P (fun h2 E2 P2 => ?_)
    refine g_iinc (i := 2) (L1 := [some (.ref 60), some (.int kd), some (.int ((Int32.ofNat v) + Int32.ofInt 1)), some (.int (Int32.ofNat (H + 1))), o4]) rfl rfl rfl ?_
    rw [ofN_add (by omega)]
    refine g_goto 167 rfl rfl ?_
    exact ih (v + 1) _ h2 (L ++ (if b32 = true then frT2 W H H 1 v else [])) (by omega) (by omega) (by have := bif_len (b := b32) (L := frT2 W H H 1 v); rw [List.length_append]; omega) E2 P2 (fun h' x0 e p => hQ h' x0 e (by rw [List.append_assoc, bif_app] at p; exact p))
theorem s_lists12 {d : Nat} {h : sHp} {W H : Nat} {J fc : Nat → Int32} {kd : Int32} {b4 b32 : Bool} (hd : 3 ≤ d) (g : gdM J W H) (hr : h[60]? = some (mO J)) (h76 : h[76]? = some (.inl (0, 1000, .inl fc))) (k2 : ¬ (kd &&& Int32.ofInt 2 = 0)) (k16 : ¬ (kd &&& (Int8.ofInt 16).toInt32 = 0)) (k4 : b4 = true ↔ ¬ (kd &&& Int32.ofInt 4 = 0)) (k32 : b32 = true ↔ ¬ (kd &&& (Int8.ofInt 32).toInt32 = 0)) : sDo d 232 [.ref 60, .int kd] h (fun r h' => r = none ∧ rcP h' (lsT W H b4 b32) J ∧ rsE h h') := by
  have g' := g
  obtain ⟨-, -, w2, w8, h2, h8⟩ := g'
  have hls := ls_le w8 h8
  have P0 : rcP (h.set 60 (mO (upd J 31 (Int32.ofInt 0)))) [] J := ⟨_, fc, s_set_eq hr, fun j hj => u_ne hj, u_at, by rw [s_set_ne (by decide)]; exact h76, fun i c hi => by cases hi⟩
  have E0 : rsE h (h.set 60 (mO (upd J 31 (Int32.ofInt 0)))) := ⟨List.length_set, fun q h1 _ => s_set_ne (Ne.symm h1)⟩
  have l4 := bif_len (b := b4) (L := bnT1 W H (W + 1) 0)
  unfold lsT
  refine sDo_of1 (nL := 5) (L := [some (.ref 60), some (.int kd), none, none, none]) (by omega) rfl rfl ?_
  refine g_aload_n (i := 0) rfl rfl ?_
  refine g_iconst (n := 0) rfl ?_
  refine g_putfield (h1 := h.set 60 (mO (upd J 31 (Int32.ofInt 0)))) rfl hr (by decide) (Nat.le_of_ble_eq_true rfl) rfl rfl ?_
  refine g_iconst (n := 1) rfl ?_
  refine g_istore_n (i := 2) (L1 := [some (.ref 60), some (.int kd), some (.int (Int32.ofInt 1)), none, none]) rfl (Nat.le_of_ble_eq_true rfl) rfl ?_
  refine s_lm_str (d := d - 1) (by omega) g k2 (W - 1) 1 _ [] (by omega) (by omega) (by show 0 + _ ≤ 644; omega) E0 P0 (fun h2 E2 P2 => ?_)
  rw [List.nil_append] at P2
  refine g_iconst (n := 0) rfl ?_
  refine g_istore_n (i := 2) (L1 := [some (.ref 60), some (.int kd), some (.int (Int32.ofInt 0)), none, none]) rfl (Nat.le_of_ble_eq_true rfl) rfl ?_
  refine s_lm_bn1 (d := d - 1) (by omega) g k4 (W + 1) 0 _ _ _ (strT (W - 1) 1) (by omega) trivial (by omega) E2 P2 (fun h3 o3 o4 E3 P3 => ?_)
  refine g_iconst (n := 1) rfl ?_
  refine g_istore_n (i := 2) (L1 := [some (.ref 60), some (.int kd), some (.int (Int32.ofInt 1)), o3, o4]) rfl (Nat.le_of_ble_eq_true rfl) rfl ?_
  refine s_lm_al (d := d - 1) (by omega) g k16 (H - 1) 1 _ _ (by omega) (by omega) (by rw [List.length_append]; omega) E3 P3 (fun h4 E4 P4 => ?_)
  refine g_iconst (n := 1) rfl ?_
  refine g_istore_n (i := 2) (L1 := [some (.ref 60), some (.int kd), some (.int (Int32.ofInt 1)), o3, o4]) rfl (Nat.le_of_ble_eq_true rfl) rfl ?_
  refine s_lm_fr1 (d := d - 1) (by omega) g k32 W 1 _ _ _ (by omega) (by omega) (by simp only [List.length_append]; omega) E4 P4 (fun h5 o3 E5 P5 => ?_)
  refine g_return rfl rfl ?_
  exact ⟨rfl, by simpa only [List.append_assoc] using P5, E5⟩
end
section
/-! ===== which cuts fit: old, sure ===== -/
theorem ls_k {W H : Nat} {b4 b32 : Bool} (w8 : W ≤ 8) (h8 : H ≤ 8) : ∀ C ∈ lsT W H b4 b32, C < 7000 ∧ ¬ C / 1000 = 3 := by
  have key : ((List.range 9).all fun W => (List.range 9).all fun H => (lsT W H true true).all fun C => Nat.blt C 7000 && !(Nat.beq (C / 1000) 3)) = true := by decide +kernel
  have k := List.all_eq_true.mp (rg_all (rg_all key W (by omega)) H (by omega))
  have sub : ∀ C, C ∈ lsT W H b4 b32 → C ∈ lsT W H true true := fun C hC => by
    unfold lsT at hC ⊢
    rw [if_pos rfl, if_pos rfl]
    simp only [List.mem_append] at hC ⊢
    rcases hC with h | h | h | h
    · exact Or.inl h
    · refine Or.inr (Or.inl ?_)
      cases b4
      · exact absurd h (by intro z; cases z)
      · exact h
    · exact Or.inr (Or.inr (Or.inl h))
    · refine Or.inr (Or.inr (Or.inr ?_))
      cases b32
      · exact absurd h (by intro z; cases z)
      · exact h
  intro C hC
  have h := k C (sub C hC)
  simp only [Bool.and_eq_true, Bool.not_eq_true'] at h
  exact ⟨Nat.le_of_ble_eq_true h.1, fun z => by have := h.2; rw [z] at this; cases this⟩
theorem ls_len {W H : Nat} {b4 b32 : Bool} (w8 : W ≤ 8) (h8 : H ≤ 8) : (lsT W H b4 b32).length ≤ 644 := by
  have := ls_le w8 h8
  have := bif_len (b := b4) (L := bnT1 W H (W + 1) 0)
  have := bif_len (b := b32) (L := frT1 W H W 1)
  unfold lsT
  simp only [List.length_append]
  omega
theorem fit_iff2 {W N C sz : Nat} {T : Nat → Int32} (hN : N ≤ 64) (hC : ¬ C / 1000 = 3) : (toS N T sz 0 &&& (fsS W N C ^^^ lM1) = Int64.ofNat 0 ∧ toS N T sz 1 &&& fsS W N C = Int64.ofNat 0) ↔ fitP W N C T sz := by
  have sd : ∀ q, sdC W C q = if isF W C q = true then 0 else 1 := fun q => by unfold sdC; rw [if_neg (fun z => hC z.1)]
  rw [bt_eq0, bt_eq0]
  unfold fitP toS fsS
  constructor
  · rintro ⟨k1, k2⟩ q h1 h2
    have k1 := k1 q (by omega)
    have k2 := k2 q (by omega)
    rw [bt_and, bt_not, bt_stO _ _ hN, bt_stO _ _ hN, decide_eq_true h1, decide_eq_true h2, decide_eq_true (show q < 64 by omega), Bool.true_and, Bool.true_and, Bool.true_and, Bool.true_and] at k1
    rw [bt_and, bt_stO _ _ hN, bt_stO _ _ hN, decide_eq_true h1, decide_eq_true h2, Bool.true_and, Bool.true_and, Bool.true_and] at k2
    rw [sd]
    refine ⟨fun z => ?_, fun z => ?_⟩
    · rw [decide_eq_true z, Bool.true_and, Bool.not_eq_false'] at k1
      rw [if_pos k1]
    · rw [decide_eq_true z, Bool.true_and] at k2
      rw [if_neg (by rw [k2]; decide)]
  · intro h
    refine ⟨fun q hq => ?_, fun q hq => ?_⟩
    · rw [bt_and, bt_not, bt_stO _ _ hN, bt_stO _ _ hN, decide_eq_true hq, Bool.true_and]
      by_cases h1 : q < N
      · by_cases h2 : q < sz
        · have k := h q h1 h2
          rw [sd] at k
          rw [decide_eq_true h1, decide_eq_true h2, Bool.true_and, Bool.true_and, Bool.true_and]
          by_cases z : T q = 0
          · have k1 := k.1 z
            by_cases y : isF W C q = true
            · rw [y, Bool.not_true, Bool.and_false]
            · rw [if_neg y] at k1; omega
          · rw [decide_eq_false z, Bool.false_and]
        · rw [decide_eq_false h2]; simp
      · rw [decide_eq_false h1]; simp
    · rw [bt_and, bt_stO _ _ hN, bt_stO _ _ hN]
      by_cases h1 : q < N
      · by_cases h2 : q < sz
        · have k := h q h1 h2
          rw [sd] at k
          rw [decide_eq_true h1, decide_eq_true h2, Bool.true_and, Bool.true_and, Bool.true_and]
          by_cases z : T q = 1
          · have k1 := k.2 z
            by_cases y : isF W C q = true
            · rw [if_pos y] at k1; omega
            · rw [nTF y, Bool.and_false]
          · rw [decide_eq_false z, Bool.false_and]
        · rw [decide_eq_false h2]; simp
      · rw [decide_eq_false h1]; simp
noncomputable def fcN (W N : Nat) (T : Nat → Int32) (sz : Nat) : List Nat → Nat → Nat
  | [], n => n
  | C :: L, n => @ite _ (fitP W N C T sz) (Classical.propDecidable _) (fcN W N T sz L (n + 1)) (fcN W N T sz L n)
noncomputable def fcX (W N : Nat) (T : Nat → Int32) (sz : Nat) (v : Int) : List Nat → Int64 → Int64
  | [], x => x
  | C :: L, x => @ite _ (fitP W N C T sz) (Classical.propDecidable _) (fcX W N T sz v L (x &&& sdS W N C v)) (fcX W N T sz v L x)
theorem fcN_y {W N sz C n : Nat} {T : Nat → Int32} {L : List Nat} (h : fitP W N C T sz) : fcN W N T sz (C :: L) n = fcN W N T sz L (n + 1) := @if_pos _ (Classical.propDecidable _) h _ _ _
theorem fcN_n {W N sz C n : Nat} {T : Nat → Int32} {L : List Nat} (h : ¬ fitP W N C T sz) : fcN W N T sz (C :: L) n = fcN W N T sz L n := @if_neg _ (Classical.propDecidable _) h _ _ _
theorem fcX_y {W N sz C : Nat} {T : Nat → Int32} {v : Int} {L : List Nat} {x : Int64} (h : fitP W N C T sz) : fcX W N T sz v (C :: L) x = fcX W N T sz v L (x &&& sdS W N C v) := @if_pos _ (Classical.propDecidable _) h _ _ _
theorem fcX_n {W N sz C : Nat} {T : Nat → Int32} {v : Int} {L : List Nat} {x : Int64} (h : ¬ fitP W N C T sz) : fcX W N T sz v (C :: L) x = fcX W N T sz v L x := @if_neg _ (Classical.propDecidable _) h _ _ _
theorem fcN_ge {W N sz : Nat} {T : Nat → Int32} : ∀ {L : List Nat} {n : Nat}, n ≤ fcN W N T sz L n ∧ fcN W N T sz L n ≤ n + L.length := by
  intro L
  induction L with
  | nil => intro n; exact ⟨Nat.le_refl _, Nat.le_refl _⟩
  | cons C L ih =>
    intro n
    by_cases h : fitP W N C T sz
    · rw [fcN_y h, List.length_cons]; have := ih (n := n + 1); omega
    · rw [fcN_n h, List.length_cons]; have := ih (n := n); omega
theorem sd1_of {W N C : Nat} {x : Int64} (hN : N ≤ 64) (hC : ¬ C / 1000 = 3) (hx : inN x N) : x &&& (fsS W N C ^^^ lM1) = x &&& sdS W N C 1 := bt_ext (fun q hq => by
  rw [bt_and, bt_and, bt_not]
  unfold fsS sdS
  rw [bt_stO _ _ hN, bt_stO _ _ hN, decide_eq_true hq, Bool.true_and]
  by_cases z : bt x q = true
  · have h1 := hx q hq z
    rw [z, decide_eq_true h1, Bool.true_and, Bool.true_and, Bool.true_and, Bool.true_and]
    unfold sdC
    rw [if_neg (fun z => hC z.1)]
    cases isF W C q <;> rfl
  · rw [nTF z, Bool.false_and, Bool.false_and])
theorem inN_and {x y : Int64} {n : Nat} (h : inN x n) : inN (x &&& y) n := fun i hi z => h i hi (by rw [bt_and, Bool.and_eq_true] at z; exact z.1)
theorem inN_all {n : Nat} (hn : n ≤ 64) : inN (stO (fun _ => true) n) n := fun i hi z => by
  rw [bt_stO _ _ hn, Bool.and_true] at z
  exact of_decide_eq_true z
theorem s_ff_go {d : Nat} {h0 : sHp} {c : CF} {W H n : Nat} {T : Nat → Int32} {L : List Nat} {ff : Nat → Int64} {tp : Nat} {B0 : Nat → Int32} (hd : 1 ≤ d) (g : gdF c W H) (hk : ∀ C ∈ L, C < 7000 ∧ ¬ C / 1000 = 3) (hl : L.length ≤ 644) (p2 : ∀ i C, L[i]? = some C → ff i = fsS W (W * H) C) : ∀ (R P : List Nat) (m : Nat) (x1 x2 : Int64) (B : Nat → Int32) (h : sHp), L = P ++ R → m ≤ P.length → h[38]? = some (sO B x1 x2) → (∀ j, j ≠ 1 → B j = B0 j) → B0 6 = Int32.ofNat L.length → B 1 = Int32.ofNat m → h[40]? = some (.inl (1, 644, .inr (.inl ff))) → inN x2 (W * H) → scE h0 h → sGo none 103 d 46 [some (.ref 38), some (.ref 5), some (.ref tp), some (.long (toS (W * H) T n 0)), none, some (.long (toS (W * H) T n 1)), none, some (.int (Int32.ofNat P.length))] [] h (fun r h' => r = none ∧ scE h0 h' ∧ ∃ B', h'[38]? = some (sO B' (if fcN W (W * H) T n R m = 0 then Int64.ofNat 0 else fcX W (W * H) T n 0 R x1) (if fcN W (W * H) T n R m = 0 then Int64.ofNat 0 else fcX W (W * H) T n 1 R x2)) ∧ B' 1 = Int32.ofNat (fcN W (W * H) T n R m)) := by
  have hn := gdF_n g
  intro R
  induction R with
  | nil =>
    intro P m x1 x2 B h hL hm hS b0 b6 b1 h40 hx E
    rw [List.append_nil] at hL
    subst hL
    have ei := ofN_toInt (n := L.length) (by omega)
    have e6 : (B 6).toInt = ((L.length : Nat) : Int) := by rw [b0 6 (by decide), b6]; exact ei
    have em := ofN_toInt (n := m) (by omega)
    have e1 : (B 1).toInt = ((m : Nat) : Int) := by rw [b1]; exact em
    show sGo none 103 d 46 _ [] h (fun r h' => r = none ∧ scE h0 h' ∧ ∃ B', h'[38]? = some (sO B' (if m = 0 then Int64.ofNat 0 else x1) (if m = 0 then Int64.ofNat 0 else x2)) ∧ B' 1 = Int32.ofNat m)
    refine g_iload (i := 7) rfl rfl ?_
    refine g_aload_n (i := 0) rfl rfl ?_
    refine g_getfield (v := .int (B 6)) rfl hS (by decide) rfl ?_
    refine g_icmp_ge 140 rfl rfl (fun _ => ?_) (fun hc => absurd hc (by rw [i_le, e6, ei]; omega))
    refine g_aload_n (i := 0) rfl rfl ?_
    refine g_getfield (v := .int (B 1)) rfl hS (by decide) rfl ?_
    have k_2 : (0 : Int32).toInt = 0 := rfl
    refine g_if_ne 157 rfl rfl (fun c_1 => ?_) (fun c_1 => ?_)
    · skip
      rw [i_eq, e1, k_2] at c_1
      refine g_return rfl rfl ?_
      exact ⟨rfl, E, B, by rw [if_neg (show ¬ m = 0 by omega), if_neg (show ¬ m = 0 by omega)]; exact hS, b1⟩
    · skip
      rw [i_eq, e1, k_2] at c_1
      refine g_aload_n (i := 0) rfl rfl ?_
      refine g_lconst (n := 0) rfl ?_
      show sGo none 103 _ 149 [some (.ref 38), some (.ref 5), some (.ref tp), some (.long (toS (W * H) T n 0)), none, some (.long (toS (W * H) T n 1)), none, some (.int (Int32.ofNat L.length))] [.long (Int64.ofNat 0), .ref 38] _ _
      refine g_putfield (h1 := h.set 38 (sO B (Int64.ofNat 0) x2)) rfl hS (by decide) (Nat.le_of_ble_eq_true rfl) rfl rfl ?_
      have hS1 : (h.set 38 (sO B (Int64.ofNat 0) x2))[38]? = some (sO B (Int64.ofNat 0) x2) := s_set_eq hS
      refine g_aload_n (i := 0) rfl rfl ?_
      refine g_lconst (n := 0) rfl ?_
      show sGo none 103 _ 154 [some (.ref 38), some (.ref 5), some (.ref tp), some (.long (toS (W * H) T n 0)), none, some (.long (toS (W * H) T n 1)), none, some (.int (Int32.ofNat L.length))] [.long (Int64.ofNat 0), .ref 38] _ _
      refine g_putfield (h1 := h.set 38 (sO B (Int64.ofNat 0) (Int64.ofNat 0))) rfl hS1 (by decide) (Nat.le_of_ble_eq_true rfl) rfl (by rw [List.set_set]; rfl) ?_
      refine g_return rfl rfl ?_
      exact ⟨rfl, scE_set E (by decide), B, by rw [if_pos (show m = 0 by omega), if_pos (show m = 0 by omega)]; exact s_set_eq hS, b1⟩
  | cons C R ih =>
    intro P m x1 x2 B h hL hm hS b0 b6 b1 h40 hx E
    have hlen : L.length = P.length + (R.length + 1) := by rw [hL, List.length_append, List.length_cons]
    have ei := ofN_toInt (n := P.length) (by omega)
    have e6 : (B 6).toInt = ((L.length : Nat) : Int) := by rw [b0 6 (by decide), b6]; exact ofN_toInt (by omega)
    have hC := hk C (by rw [hL]; exact List.mem_append_right _ (List.mem_cons_self ..))
    have hat : L[P.length]? = some C := by rw [hL, List.getElem?_append_right (Nat.le_refl _), Nat.sub_self]; rfl
    have hff := p2 P.length C hat
    have fi := fit_iff2 (W := W) (sz := n) (T := T) hn.1 hC.2
    have hL2 : L = (P ++ [C]) ++ R := by rw [hL, List.append_assoc]; rfl
    have hP1 : (P ++ [C]).length = P.length + 1 := by rw [List.length_append]; rfl
    have e1 : (B 1).toInt = ((m : Nat) : Int) := by rw [b1]; exact ofN_toInt (by omega)
    refine g_iload (i := 7) rfl rfl ?_
    refine g_aload_n (i := 0) rfl rfl ?_
    refine g_getfield (v := .int (B 6)) rfl hS (by decide) rfl ?_
    refine g_icmp_ge 140 rfl rfl (fun hc => absurd hc (by rw [i_le, e6, ei]; omega)) (fun _ => ?_)
    refine g_lload_n (i := 3) rfl rfl ?_
    refine g_aload_n (i := 0) rfl rfl ?_
    refine g_getfield (v := .ref 40) rfl hS (by decide) rfl ?_
    refine g_iload (i := 7) rfl rfl ?_
    refine g_laload (n := 644) (f := ff) rfl h40 (i_in (by omega) (by omega)) ?_
    rw [i_nat ei, hff]
    refine g_ldc2_w (j := 18446744073709551615) rfl ?_
    refine g_lxor rfl ?_
    refine g_land rfl ?_
    refine g_lconst (n := 0) rfl ?_
    show sGo none 103 _ 69 [some (.ref 38), some (.ref 5), some (.ref tp), some (.long (toS (W * H) T n 0)), none, some (.long (toS (W * H) T n 1)), none, some (.int (Int32.ofNat P.length))] [.long (Int64.ofNat 0), .long ((toS (W * H) T n 0) &&& ((fsS W (W * H) C) ^^^ (Int64.ofNat 18446744073709551615)))] _ _
    refine g_lcmp rfl ?_
    refine g_if_ne 134 rfl rfl (fun c_1 => ?_) (fun c_1 => ?_)
    · skip
      rw [lc_eq] at c_1
      refine g_iinc (i := 7) (L1 := [some (.ref 38), some (.ref 5), some (.ref tp), some (.long (toS (W * H) T n 0)), none, some (.long (toS (W * H) T n 1)), none, some (.int ((Int32.ofNat P.length) + Int32.ofInt 1))]) rfl rfl rfl ?_
      rw [ofN_add (by omega)]
      refine g_goto 46 rfl rfl ?_
      have hfit : ¬ fitP W (W * H) C T n := fun z => c_1 (fi.mpr z).1
      rw [fcN_n hfit, fcX_n hfit, fcX_n hfit]
      have key := ih (P ++ [C]) m x1 x2 B h hL2 (by omega) hS b0 b6 b1 h40 hx E
      rw [hP1] at key
      exact key
    · skip
      rw [lc_eq] at c_1
      refine g_lload (i := 5) rfl rfl ?_
      refine g_aload_n (i := 0) rfl rfl ?_
      refine g_getfield (v := .ref 40) rfl hS (by decide) rfl ?_
      refine g_iload (i := 7) rfl rfl ?_
      refine g_laload (n := 644) (f := ff) rfl h40 (i_in (by omega) (by omega)) ?_
      rw [i_nat ei, hff]
      refine g_land rfl ?_
      refine g_lconst (n := 0) rfl ?_
      show sGo none 103 _ 84 [some (.ref 38), some (.ref 5), some (.ref tp), some (.long (toS (W * H) T n 0)), none, some (.long (toS (W * H) T n 1)), none, some (.int (Int32.ofNat P.length))] [.long (Int64.ofNat 0), .long ((toS (W * H) T n 1) &&& (fsS W (W * H) C))] _ _
      refine g_lcmp rfl ?_
      refine g_if_ne 134 rfl rfl (fun c_2 => ?_) (fun c_2 => ?_)
      · skip
        rw [lc_eq] at c_2
        refine g_iinc (i := 7) (L1 := [some (.ref 38), some (.ref 5), some (.ref tp), some (.long (toS (W * H) T n 0)), none, some (.long (toS (W * H) T n 1)), none, some (.int ((Int32.ofNat P.length) + Int32.ofInt 1))]) rfl rfl rfl ?_
        rw [ofN_add (by omega)]
        refine g_goto 46 rfl rfl ?_
        have hfit : ¬ fitP W (W * H) C T n := fun z => c_2 (fi.mpr z).2
        rw [fcN_n hfit, fcX_n hfit, fcX_n hfit]
        have key := ih (P ++ [C]) m x1 x2 B h hL2 (by omega) hS b0 b6 b1 h40 hx E
        rw [hP1] at key
        exact key
      · skip
        rw [lc_eq] at c_2
        refine g_aload_n (i := 0) rfl rfl ?_
        refine g_dup rfl rfl ?_
        refine g_getfield (v := .int (B 1)) rfl hS (by decide) rfl ?_
        refine g_iconst (n := 1) rfl ?_
        have k_3 : (Int32.ofInt 1).toInt = 1 := rfl
        refine g_iadd rfl ?_
        have t_4 : ((B 1) + (Int32.ofInt 1)).toInt = ((m + 1 : Nat) : Int) := by rw [i_add (by rw [e1, k_3]; omega) (by rw [e1, k_3]; omega), e1, k_3]; omega
        rw [b1, ofN_add (by omega)]
        refine g_putfield (h1 := h.set 38 (sO (upd B 1 (Int32.ofNat (m + 1))) x1 x2)) rfl hS (by decide) (Nat.le_of_ble_eq_true rfl) rfl rfl ?_
        have hS1 : (h.set 38 (sO (upd B 1 (Int32.ofNat (m + 1))) x1 x2))[38]? = some (sO (upd B 1 (Int32.ofNat (m + 1))) x1 x2) := s_set_eq hS
        refine g_aload_n (i := 0) rfl rfl ?_
        refine g_dup rfl rfl ?_
        refine g_getfield (v := .long x1) rfl hS1 (by decide) rfl ?_
        refine g_aload_n (i := 0) rfl rfl ?_
        refine g_getfield (v := .ref 40) rfl hS1 (by decide) rfl ?_
        refine g_iload (i := 7) rfl rfl ?_
        refine g_laload (n := 644) (f := ff) rfl (by rw [s_set_ne (by decide)]; exact h40) (i_in (by omega) (by omega)) ?_
        rw [i_nat ei, hff]
        refine g_land rfl ?_
        refine g_putfield (h1 := h.set 38 (sO (upd B 1 (Int32.ofNat (m + 1))) (x1 &&& fsS W (W * H) C) x2)) rfl hS1 (by decide) (Nat.le_of_ble_eq_true rfl) rfl (by rw [List.set_set]; rfl) ?_
        have hS2 : (h.set 38 (sO (upd B 1 (Int32.ofNat (m + 1))) (x1 &&& fsS W (W * H) C) x2))[38]? = some (sO (upd B 1 (Int32.ofNat (m + 1))) (x1 &&& fsS W (W * H) C) x2) := s_set_eq hS
        refine g_aload_n (i := 0) rfl rfl ?_
        refine g_dup rfl rfl ?_
        refine g_getfield (v := .long x2) rfl hS2 (by decide) rfl ?_
        refine g_aload_n (i := 0) rfl rfl ?_
        refine g_getfield (v := .ref 40) rfl hS2 (by decide) rfl ?_
        refine g_iload (i := 7) rfl rfl ?_
        refine g_laload (n := 644) (f := ff) rfl (by rw [s_set_ne (by decide)]; exact h40) (i_in (by omega) (by omega)) ?_
        rw [i_nat ei, hff]
        refine g_ldc2_w (j := 18446744073709551615) rfl ?_
        refine g_lxor rfl ?_
        refine g_land rfl ?_
        refine g_putfield (h1 := h.set 38 (sO (upd B 1 (Int32.ofNat (m + 1))) (x1 &&& fsS W (W * H) C) (x2 &&& (fsS W (W * H) C ^^^ lM1)))) rfl hS2 (by decide) (Nat.le_of_ble_eq_true rfl) rfl (by rw [List.set_set]; rfl) ?_
        refine g_iinc (i := 7) (L1 := [some (.ref 38), some (.ref 5), some (.ref tp), some (.long (toS (W * H) T n 0)), none, some (.long (toS (W * H) T n 1)), none, some (.int ((Int32.ofNat P.length) + Int32.ofInt 1))]) rfl rfl rfl ?_
        rw [ofN_add (by omega)]
        refine g_goto 46 rfl rfl ?_
        have hfit := fi.mp ⟨c_1, c_2⟩
        rw [fcN_y hfit, fcX_y hfit, fcX_y hfit, ← sdS_0 hn.1, ← sd1_of hn.1 hC.2 hx]
        have key := ih (P ++ [C]) (m + 1) (x1 &&& fsS W (W * H) C) (x2 &&& (fsS W (W * H) C ^^^ lM1)) (upd B 1 (Int32.ofNat (m + 1))) _ hL2 (by omega) (s_set_eq hS) (fun j hj => (u_ne hj).trans (b0 j hj)) b6 u_at (by rw [s_set_ne (by decide)]; exact h40) (inN_and hx) (scE_set E (by decide))
        rw [hP1] at key
        exact key
theorem s_findFitting {d : Nat} {h : sHp} {c : CF} {W H : Nat} {tp ep n : Nat} {ot : Int32} {el : Nat → Int64} {B : Nat → Int32} {S1 S2 : Int64} {fc : Nat → Int32} {ff : Nat → Int64} (hd : 7 ≤ d) (F : FC h 5 c) (g : gdF c W H) (ht : h[tp]? = some (.inr (7, [.int ot, .int (Int32.ofNat n), .ref ep]))) (he : h[ep]? = some (.inl (1, 100, .inr (.inl el)))) (hn1 : n ≤ 100) (hte : tp < 38 ∨ 40 < tp) (hS : h[38]? = some (sO B S1 S2)) (h39 : h[39]? = some (.inl (0, 644, .inl fc))) (h40 : h[40]? = some (.inl (1, 644, .inr (.inl ff)))) : sDo d 103 [.ref 38, .ref 5, .ref tp] h (fun r h' => r = none ∧ scE h h' ∧ ∃ B', h'[38]? = some (sO B' (if fcN W (W * H) (tx el n) n (lsT W H true true) 0 = 0 then Int64.ofNat 0 else fcX W (W * H) (tx el n) n 0 (lsT W H true true) (stO (fun _ => true) (W * H))) (if fcN W (W * H) (tx el n) n (lsT W H true true) 0 = 0 then Int64.ofNat 0 else fcX W (W * H) (tx el n) n 1 (lsT W H true true) (stO (fun _ => true) (W * H)))) ∧ B' 1 = Int32.ofNat (fcN W (W * H) (tx el n) n (lsT W H true true) 0)) := by
  have g2 := g.2.2.2.2.2.2.1
  have w8 := g.2.2.2.1
  have h8 := g.2.2.2.2.2.1
  have hn := gdF_n g
  refine sDo_of1 (nL := 8) (L := [some (.ref 38), some (.ref 5), some (.ref tp), none, none, none, none, none]) (by omega) rfl rfl ?_
  refine g_aload_n (i := 1) rfl rfl ?_
  refine g_aload_n (i := 2) rfl rfl ?_
  refine g_iconst (n := 0) rfl ?_
  refine g_virt2 (Qc := fun r h' => h' = h ∧ r = some (.long (toS (W * H) (tx el n) n 0))) rfl (by decide) rfl F.1 rfl (Nat.le_of_ble_eq_true rfl) (s_toldBy (v := (Int32.ofInt 0)) (by omega) F g ht he hn1) (fun r h hq9 => ?_)
  obtain ⟨rfl, rfl⟩ := hq9
  refine g_lstore_n (i := 3) (L1 := [some (.ref 38), some (.ref 5), some (.ref tp), some (.long (toS (W * H) (tx el n) n 0)), none, none, none, none]) rfl (Nat.le_of_ble_eq_true rfl) rfl ?_
  refine g_aload_n (i := 1) rfl rfl ?_
  refine g_aload_n (i := 2) rfl rfl ?_
  refine g_iconst (n := 1) rfl ?_
  refine g_virt2 (Qc := fun r h' => h' = h ∧ r = some (.long (toS (W * H) (tx el n) n 1))) rfl (by decide) rfl F.1 rfl (Nat.le_of_ble_eq_true rfl) (s_toldBy (v := (Int32.ofInt 1)) (by omega) F g ht he hn1) (fun r h hq9 => ?_)
  obtain ⟨rfl, rfl⟩ := hq9
  refine g_lstore (i := 5) (L1 := [some (.ref 38), some (.ref 5), some (.ref tp), some (.long (toS (W * H) (tx el n) n 0)), none, some (.long (toS (W * H) (tx el n) n 1)), none, none]) rfl (Nat.le_of_ble_eq_true rfl) rfl ?_
  refine g_aload_n (i := 0) rfl rfl ?_
  refine g_iconst (n := 0) rfl ?_
  refine g_putfield (h1 := h.set 38 (sO (upd B 1 (Int32.ofInt 0)) S1 S2)) rfl hS (by decide) (Nat.le_of_ble_eq_true rfl) rfl rfl ?_
  have hA : (h.set 38 (sO (upd B 1 (Int32.ofInt 0)) S1 S2))[38]? = some (sO (upd B 1 (Int32.ofInt 0)) S1 S2) := s_set_eq hS
  have FhA := FC_out (q := 38) (x := sO (upd B 1 (Int32.ofInt 0)) S1 S2) F (by omega)
  refine g_aload_n (i := 0) rfl rfl ?_
  refine g_aload_n (i := 1) rfl rfl ?_
  refine g_getfield (v := .long (c.2.1 2)) rfl FhA.1 (by decide) rfl ?_
  refine g_putfield (h1 := h.set 38 (sO (upd B 1 (Int32.ofInt 0)) (c.2.1 2) S2)) rfl hA (by decide) (Nat.le_of_ble_eq_true rfl) rfl (by rw [List.set_set]; rfl) ?_
  have hB : (h.set 38 (sO (upd B 1 (Int32.ofInt 0)) (c.2.1 2) S2))[38]? = some (sO (upd B 1 (Int32.ofInt 0)) (c.2.1 2) S2) := s_set_eq hS
  have FhB := FC_out (q := 38) (x := sO (upd B 1 (Int32.ofInt 0)) (c.2.1 2) S2) F (by omega)
  refine g_aload_n (i := 0) rfl rfl ?_
  refine g_aload_n (i := 1) rfl rfl ?_
  refine g_getfield (v := .long (c.2.1 2)) rfl FhB.1 (by decide) rfl ?_
  refine g_putfield (h1 := h.set 38 (sO (upd B 1 (Int32.ofInt 0)) (c.2.1 2) (c.2.1 2))) rfl hB (by decide) (Nat.le_of_ble_eq_true rfl) rfl (by rw [List.set_set]; rfl) ?_
  have hC : (h.set 38 (sO (upd B 1 (Int32.ofInt 0)) (c.2.1 2) (c.2.1 2)))[38]? = some (sO (upd B 1 (Int32.ofInt 0)) (c.2.1 2) (c.2.1 2)) := s_set_eq hS
  have FhC := FC_out (q := 38) (x := sO (upd B 1 (Int32.ofInt 0)) (c.2.1 2) (c.2.1 2)) F (by omega)
  refine g_aload_n (i := 0) rfl rfl ?_
  refine g_aload_n (i := 1) rfl rfl ?_
  refine g_iconst (n := 1) rfl ?_
  refine g_iconst (n := 1) rfl ?_
  have hls := s_listCuts (d := d - 1) (x2 := Int32.ofInt 1) (x3 := Int32.ofInt 1) (fc := fc) (ff := ff) true true (by omega) FhC g hC (by rw [s_set_ne (by decide)]; exact h39) (by rw [s_set_ne (by decide)]; exact h40) (by decide) (by decide)
  refine g_virt3 rfl (by decide) rfl hC rfl (Nat.le_of_ble_eq_true rfl) hls (fun r h2 hq => ?_)
  obtain ⟨rfl, ⟨B2, fc2, ff2, hS2, bb, b6, g39, g40, p1, p2⟩, E2⟩ := hq
  refine g_iconst (n := 0) rfl ?_
  refine g_istore (i := 7) (L1 := [some (.ref 38), some (.ref 5), some (.ref tp), some (.long (toS (W * H) (tx el n) n 0)), none, some (.long (toS (W * H) (tx el n) n 1)), none, some (.int (Int32.ofInt 0))]) rfl (Nat.le_of_ble_eq_true rfl) rfl ?_
  have EE : scE h h2 := scE_tr (scE_set scE_rfl (by decide)) E2
  have key := s_ff_go (d := d - 1) (h0 := h) (T := tx el n) (n := n) (tp := tp) (B0 := B2) (by omega) g (ls_k w8 h8) (ls_len w8 h8) p2 (lsT W H true true) [] 0 (c.2.1 2) (c.2.1 2) B2 h2 rfl (by decide) hS2 (fun _ _ => rfl) b6 ((bb 1 (by decide)).trans u_at) g40 (by rw [g2]; exact inN_all hn.1) EE
  rw [g2] at key
  exact key
end
section
/-! ===== old, sure: the walks ===== -/
theorem SO_of {h : sHp} (hH : bH h) : ∃ (B : Nat → Int32) (S1 S2 : Int64) (fc : Nat → Int32) (ff : Nat → Int64), h[38]? = some (sO B S1 S2) ∧ h[39]? = some (.inl (0, 644, .inl fc)) ∧ h[40]? = some (.inl (1, 644, .inr (.inl ff))) := by
  obtain ⟨fs, hf, hl, ht⟩ := bFldK hH (p := 38) (by decide) rfl
  obtain ⟨v0, e0, t0⟩ := ht 0 _ rfl
  obtain ⟨x0, rfl, -, -⟩ := bT_int t0
  obtain ⟨v1, e1, t1⟩ := ht 1 _ rfl
  obtain ⟨x1, rfl, -, -⟩ := bT_int t1
  obtain ⟨v2, e2, t2⟩ := ht 2 _ rfl
  obtain ⟨x2, rfl⟩ := t2
  obtain ⟨v3, e3, t3⟩ := ht 3 _ rfl
  obtain ⟨x3, rfl⟩ := t3
  obtain ⟨v4, e4, t4⟩ := ht 4 _ rfl
  obtain ⟨x4, rfl, -, -⟩ := bT_int t4
  obtain ⟨v5, e5, t5⟩ := ht 5 _ rfl
  obtain ⟨x5, rfl, -, -⟩ := bT_int t5
  obtain ⟨v6, e6, t6⟩ := ht 6 _ rfl
  obtain ⟨x6, rfl, -, -⟩ := bT_int t6
  obtain ⟨v7, e7, t7⟩ := ht 7 _ rfl
  have r7 := bT_one (by decide) (by decide +kernel) t7
  subst r7
  obtain ⟨v8, e8, t8⟩ := ht 8 _ rfl
  have r8 := bT_one (by decide) (by decide +kernel) t8
  subst r8
  obtain ⟨v9, e9, t9⟩ := ht 9 _ rfl
  have r9 := bT_one (by decide) (by decide +kernel) t9
  subst r9
  have e : fs = [.int x0, .int x1, .long x2, .long x3, .int x4, .int x5, .int x6, .ref 39, .ref 40, .ref 41] := List.ext_getElem? (fun j => match j with
    | 0 => e0
    | 1 => e1
    | 2 => e2
    | 3 => e3
    | 4 => e4
    | 5 => e5
    | 6 => e6
    | 7 => e7
    | 8 => e8
    | 9 => e9
    | n + 10 => by rw [List.getElem?_eq_none (by rw [hl]; show 10 ≤ n + 10; omega)]; rfl)
  subst e
  obtain ⟨fc, a1, -, -⟩ := bA60 hH (p := 39) (by decide) rfl
  obtain ⟨ff, a2⟩ := bA60L hH (p := 40) (by decide) rfl
  exact ⟨(fun j => match j with | 0 => x0 | 1 => x1 | 4 => x4 | 5 => x5 | 6 => x6 | _ => 0), x2, x3, fc, ff, hf, a1, a2⟩
theorem s_old11n {d : Nat} {h : sHp} {ik tf x b : Int32} {R : Nat → Int32} {B : Nat} (hd : 3 ≤ d) (h0 : h[0]? = some (cO ik tf)) (hR : h[43]? = some (rFc R)) (hb : b.toInt = -(B : Int)) (hB : 1 ≤ B ∧ B ≤ 7) (hno : sDo (d - 1) 161 [.ref 0, .int x] h (fun r h' => h' = h ∧ r = some (.int b))) : sDo d 149 [.ref 0, .int x] h (fun r h' => r = some (.int b) ∧ h' = h.set 43 (rFc (bump R B))) := by
  have hb0 : ¬ b = 0 := fun z => by rw [z] at hb; have e : (0 : Int32).toInt = 0 := rfl; omega
  refine sDo_of1 (nL := 3) (L := [some (.ref 0), some (.int x), none]) (by omega) rfl rfl ?_
  refine g_aload_n (i := 0) rfl rfl ?_
  refine g_iload_n (i := 1) rfl rfl ?_
  refine g_virt1 (Qc := fun r h' => h' = h ∧ r = some (.int b)) rfl (by decide) rfl h0 rfl (Nat.le_of_ble_eq_true rfl) (hno) (fun r h hq9 => ?_)
  obtain ⟨rfl, rfl⟩ := hq9
  refine g_istore_n (i := 2) (L1 := [some (.ref 0), some (.int x), some (.int b)]) rfl (Nat.le_of_ble_eq_true rfl) rfl ?_
  refine g_iload_n (i := 2) rfl rfl ?_
  refine g_if_eq 16 rfl rfl (fun hc => absurd hc (by exact hb0)) (fun _ => ?_)
  refine g_aload_n (i := 0) rfl rfl ?_
  refine g_iload_n (i := 2) rfl rfl ?_
  refine g_virt1 (Qc := fun r h' => r = some (.int b) ∧ h' = h.set 43 (rFc (bump R B))) rfl (by decide) rfl h0 rfl (Nat.le_of_ble_eq_true rfl) (s_refuse2 (by omega) h0 hR hb hB) (fun r h9 hq9 => ?_)
  obtain ⟨rfl, rfl⟩ := hq9
  refine g_ireturn (ty := .int) rfl rfl rfl ?_
  exact ⟨rfl, rfl⟩
theorem s_sure11n {d : Nat} {h : sHp} {ik tf x b y : Int32} {R : Nat → Int32} {B : Nat} (hd : 3 ≤ d) (h0 : h[0]? = some (cO ik tf)) (hR : h[43]? = some (rFc R)) (hb : b.toInt = -(B : Int)) (hB : 1 ≤ B ∧ B ≤ 7) (hno : sDo (d - 1) 161 [.ref 0, .int x] h (fun r h' => h' = h ∧ r = some (.int b))) : sDo d 150 [.ref 0, .int x, .int y] h (fun r h' => r = some (.long b.toInt64) ∧ h' = h.set 43 (rFc (bump R B))) := by
  have hb0 : ¬ b = 0 := fun z => by rw [z] at hb; have e : (0 : Int32).toInt = 0 := rfl; omega
  refine sDo_of1 (nL := 4) (L := [some (.ref 0), some (.int x), some (.int y), none]) (by omega) rfl rfl ?_
  refine g_aload_n (i := 0) rfl rfl ?_
  refine g_iload_n (i := 1) rfl rfl ?_
  refine g_virt1 (Qc := fun r h' => h' = h ∧ r = some (.int b)) rfl (by decide) rfl h0 rfl (Nat.le_of_ble_eq_true rfl) (hno) (fun r h hq9 => ?_)
  obtain ⟨rfl, rfl⟩ := hq9
  refine g_istore_n (i := 3) (L1 := [some (.ref 0), some (.int x), some (.int y), some (.int b)]) rfl (Nat.le_of_ble_eq_true rfl) rfl ?_
  refine g_iload_n (i := 3) rfl rfl ?_
  refine g_if_eq 17 rfl rfl (fun hc => absurd hc (by exact hb0)) (fun _ => ?_)
  refine g_aload_n (i := 0) rfl rfl ?_
  refine g_iload_n (i := 3) rfl rfl ?_
  refine g_virt1 (Qc := fun r h' => r = some (.int b) ∧ h' = h.set 43 (rFc (bump R B))) rfl (by decide) rfl h0 rfl (Nat.le_of_ble_eq_true rfl) (s_refuse2 (by omega) h0 hR hb hB) (fun r h9 hq9 => ?_)
  obtain ⟨rfl, rfl⟩ := hq9
  refine g_i2l rfl ?_
  refine g_lreturn rfl rfl ?_
  exact ⟨rfl, rfl⟩
theorem s_old11c {d : Nat} {h : sHp} {ik tf : Int32} {c : CF} {W H : Nat} {tp ep n : Nat} {ot : Int32} {el : Nat → Int64} {B : Nat → Int32} {S1 S2 : Int64} {fc : Nat → Int32} {ff : Nat → Int64} {t : Int32} {T : Nat} {f : Nat → Option Nat} (hd : 8 ≤ d) (h0 : h[0]? = some (cO ik tf)) (F : FC h 5 c) (g : gdF c W H) (h1 : h[1]? = some (.inl (3, 8, .inr (.inr (.inr (.inr f)))))) (hT : t.toInt = T) (hT8 : T < 8) (hf : f T = some tp) (hte : tp < 38 ∨ 40 < tp) (ht : h[tp]? = some (.inr (7, [.int ot, .int (Int32.ofNat n), .ref ep]))) (he : h[ep]? = some (.inl (1, 100, .inr (.inl el)))) (hn1 : n ≤ 100) (hS : h[38]? = some (sO B S1 S2)) (h39 : h[39]? = some (.inl (0, 644, .inl fc))) (h40 : h[40]? = some (.inl (1, 644, .inr (.inl ff)))) (hno : sDo (d - 1) 161 [.ref 0, .int t] h (fun r h' => h' = h ∧ r = some (.int 0))) : sDo d 149 [.ref 0, .int t] h (fun r h' => r = some (.int (Int32.ofNat (fcN W (W * H) (tx el n) n (lsT W H true true) 0))) ∧ scE h h') := by
  refine sDo_of1 (nL := 3) (L := [some (.ref 0), some (.int t), none]) (by omega) rfl rfl ?_
  refine g_aload_n (i := 0) rfl rfl ?_
  refine g_iload_n (i := 1) rfl rfl ?_
  refine g_virt1 (Qc := fun r h' => h' = h ∧ r = some (.int 0)) rfl (by decide) rfl h0 rfl (Nat.le_of_ble_eq_true rfl) (hno) (fun r h hq9 => ?_)
  obtain ⟨rfl, rfl⟩ := hq9
  refine g_istore_n (i := 2) (L1 := [some (.ref 0), some (.int t), some (.int 0)]) rfl (Nat.le_of_ble_eq_true rfl) rfl ?_
  refine g_iload_n (i := 2) rfl rfl ?_
  refine g_if_eq 16 rfl rfl (fun _ => ?_) (fun hc => absurd hc (by decide))
  refine g_aload_n (i := 0) rfl rfl ?_
  refine g_getfield (v := .ref 38) rfl h0 (by decide) rfl ?_
  refine g_aload_n (i := 0) rfl rfl ?_
  refine g_getfield (v := .ref 5) rfl h0 (by decide) rfl ?_
  refine g_aload_n (i := 0) rfl rfl ?_
  refine g_getfield (v := .ref 1) rfl h0 (by decide) rfl ?_
  refine g_iload_n (i := 1) rfl rfl ?_
  refine g_aaload rfl h1 (by decide) (i_in (by omega) (by omega)) ?_
  rw [i_nat hT, hf]
  show sGo none 149 _ 30 [some (.ref 0), some (.int t), some (.int 0)] (.ref tp :: [.ref 5, .ref 38]) _ _
  refine g_virt2 rfl (by decide) rfl hS rfl (Nat.le_of_ble_eq_true rfl) (s_findFitting (d := d - 1) (by omega) F g ht he hn1 hte hS h39 h40) (fun r h2 hq => ?_)
  obtain ⟨rfl, E2, B2, hS2, b1⟩ := hq
  have z0 := (E2.2 0 (by decide)).trans h0
  refine g_aload_n (i := 0) rfl rfl ?_
  refine g_getfield (v := .ref 38) rfl z0 (by decide) rfl ?_
  refine g_getfield (v := .int (B2 1)) rfl hS2 (by decide) rfl ?_
  refine g_ireturn (ty := .int) rfl rfl rfl ?_
  exact ⟨by rw [b1], E2⟩
theorem s_sure11c {d : Nat} {h : sHp} {ik tf : Int32} {c : CF} {W H : Nat} {tp ep n : Nat} {ot : Int32} {el : Nat → Int64} {B : Nat → Int32} {S1 S2 : Int64} {fc : Nat → Int32} {ff : Nat → Int64} {t y : Int32} {T : Nat} {f : Nat → Option Nat} {R : Nat → Int32} (hd : 8 ≤ d) (h0 : h[0]? = some (cO ik tf)) (F : FC h 5 c) (g : gdF c W H) (hR : h[43]? = some (rFc R)) (h1 : h[1]? = some (.inl (3, 8, .inr (.inr (.inr (.inr f)))))) (hT : t.toInt = T) (hT8 : T < 8) (hf : f T = some tp) (hte : tp < 38 ∨ 40 < tp) (ht : h[tp]? = some (.inr (7, [.int ot, .int (Int32.ofNat n), .ref ep]))) (he : h[ep]? = some (.inl (1, 100, .inr (.inl el)))) (hn1 : n ≤ 100) (hS : h[38]? = some (sO B S1 S2)) (h39 : h[39]? = some (.inl (0, 644, .inl fc))) (h40 : h[40]? = some (.inl (1, 644, .inr (.inl ff)))) (hno : sDo (d - 1) 161 [.ref 0, .int t] h (fun r h' => h' = h ∧ r = some (.int 0))) : sDo d 150 [.ref 0, .int t, .int y] h (fun r h' => ((y.toInt < 0 ∨ 1 < y.toInt) ∧ r = some (.long (-5 : Int32).toInt64) ∧ h' = h.set 43 (rFc (bump R 5))) ∨ (¬ (y.toInt < 0 ∨ 1 < y.toInt) ∧ r = some (.long (if fcN W (W * H) (tx el n) n (lsT W H true true) 0 = 0 then Int64.ofNat 0 else fcX W (W * H) (tx el n) n y.toInt (lsT W H true true) (stO (fun _ => true) (W * H)))) ∧ scE h h')) := by
  refine sDo_of1 (nL := 4) (L := [some (.ref 0), some (.int t), some (.int y), none]) (by omega) rfl rfl ?_
  refine g_aload_n (i := 0) rfl rfl ?_
  refine g_iload_n (i := 1) rfl rfl ?_
  refine g_virt1 (Qc := fun r h' => h' = h ∧ r = some (.int 0)) rfl (by decide) rfl h0 rfl (Nat.le_of_ble_eq_true rfl) (hno) (fun r h hq9 => ?_)
  obtain ⟨rfl, rfl⟩ := hq9
  refine g_istore_n (i := 3) (L1 := [some (.ref 0), some (.int t), some (.int y), some (.int 0)]) rfl (Nat.le_of_ble_eq_true rfl) rfl ?_
  refine g_iload_n (i := 3) rfl rfl ?_
  refine g_if_eq 17 rfl rfl (fun _ => ?_) (fun hc => absurd hc (by decide))
  refine g_iload_n (i := 2) rfl rfl ?_
  have k_2 : (0 : Int32).toInt = 0 := rfl
  refine g_if_lt 26 rfl rfl (fun c_1 => ?_) (fun c_1 => ?_)
  · skip
    rw [i_lt, k_2] at c_1
    refine g_aload_n (i := 0) rfl rfl ?_
    refine g_bipush (n := (-5)) rfl ?_
    refine g_virt1 (Qc := fun r h' => r = some (.int (-5)) ∧ h' = h.set 43 (rFc (bump R 5))) rfl (by decide) rfl h0 rfl (Nat.le_of_ble_eq_true rfl) (s_refuse2 (X := 5) (by omega) h0 hR rfl (by decide)) (fun r h9 hq9 => ?_)
    obtain ⟨rfl, rfl⟩ := hq9
    refine g_i2l rfl ?_
    refine g_lreturn rfl rfl ?_
    exact Or.inl ⟨by omega, rfl, rfl⟩
  · skip
    rw [i_lt, k_2] at c_1
    refine g_iload_n (i := 2) rfl rfl ?_
    refine g_iconst (n := 1) rfl ?_
    have k_4 : (Int32.ofInt 1).toInt = 1 := rfl
    refine g_icmp_le 34 rfl rfl (fun c_3 => ?_) (fun c_3 => ?_)
    · skip
      rw [i_le, k_4] at c_3
      refine g_aload_n (i := 0) rfl rfl ?_
      refine g_getfield (v := .ref 38) rfl h0 (by decide) rfl ?_
      refine g_aload_n (i := 0) rfl rfl ?_
      refine g_getfield (v := .ref 5) rfl h0 (by decide) rfl ?_
      refine g_aload_n (i := 0) rfl rfl ?_
      refine g_getfield (v := .ref 1) rfl h0 (by decide) rfl ?_
      refine g_iload_n (i := 1) rfl rfl ?_
      refine g_aaload rfl h1 (by decide) (i_in (by omega) (by omega)) ?_
      rw [i_nat hT, hf]
      show sGo none 150 _ 48 [some (.ref 0), some (.int t), some (.int y), some (.int 0)] (.ref tp :: [.ref 5, .ref 38]) _ _
      refine g_virt2 rfl (by decide) rfl hS rfl (Nat.le_of_ble_eq_true rfl) (s_findFitting (d := d - 1) (by omega) F g ht he hn1 hte hS h39 h40) (fun r h2 hq => ?_)
      obtain ⟨rfl, E2, B2, hS2, b1⟩ := hq
      have z0 := (E2.2 0 (by decide)).trans h0
      refine g_iload_n (i := 2) rfl rfl ?_
      refine g_if_ne 65 rfl rfl (fun c_5 => ?_) (fun c_5 => ?_)
      · skip
        rw [i_eq, k_2] at c_5
        refine g_aload_n (i := 0) rfl rfl ?_
        refine g_getfield (v := .ref 38) rfl z0 (by decide) rfl ?_
        refine g_getfield (v := .long (if fcN W (W * H) (tx el n) n (lsT W H true true) 0 = 0 then Int64.ofNat 0 else fcX W (W * H) (tx el n) n 1 (lsT W H true true) (stO (fun _ => true) (W * H)))) rfl hS2 (by decide) rfl ?_
        refine g_lreturn rfl rfl ?_
        exact Or.inr ⟨by omega, by rw [show y.toInt = 1 by omega], E2⟩
      · skip
        rw [i_eq, k_2] at c_5
        refine g_aload_n (i := 0) rfl rfl ?_
        refine g_getfield (v := .ref 38) rfl z0 (by decide) rfl ?_
        refine g_getfield (v := .long (if fcN W (W * H) (tx el n) n (lsT W H true true) 0 = 0 then Int64.ofNat 0 else fcX W (W * H) (tx el n) n 0 (lsT W H true true) (stO (fun _ => true) (W * H)))) rfl hS2 (by decide) rfl ?_
        refine g_goto 72 rfl rfl ?_
        refine g_lreturn rfl rfl ?_
        exact Or.inr ⟨by omega, by rw [show y.toInt = 0 by omega], E2⟩
    · skip
      rw [i_le, k_4] at c_3
      refine g_aload_n (i := 0) rfl rfl ?_
      refine g_bipush (n := (-5)) rfl ?_
      refine g_virt1 (Qc := fun r h' => r = some (.int (-5)) ∧ h' = h.set 43 (rFc (bump R 5))) rfl (by decide) rfl h0 rfl (Nat.le_of_ble_eq_true rfl) (s_refuse2 (X := 5) (by omega) h0 hR rfl (by decide)) (fun r h9 hq9 => ?_)
      obtain ⟨rfl, rfl⟩ := hq9
      refine g_i2l rfl ?_
      refine g_lreturn rfl rfl ?_
      exact Or.inl ⟨by omega, rfl, rfl⟩
theorem s_old12_go {d : Nat} {h : sHp} {J sz fc : Nat → Int32} {W H n : Nat} {t : Int32} {T : Nat} {TT : Nat → Int32} {cl : Nat → Int64} {L : List Nat} (hd1 : 4 ≤ d) (hr : h[60]? = some (mO J)) (g : gdM J W H) (hT : t.toInt = T) (hT8 : T < 8) (a6 : h[69]? = some (.inl (0, 8, .inl sz))) (a8 : h[71]? = some (.inl (1, 800, .inr (.inl cl)))) (hz : sz T = Int32.ofNat n) (RT1 : RT cl T n TT) (hk : ∀ C ∈ L, C < 7000 ∧ ¬ C / 1000 = 3) (hl : L.length ≤ 644) (j31 : J 31 = Int32.ofNat L.length) (h76 : h[76]? = some (.inl (0, 1000, .inl fc))) (p1 : ∀ i c, L[i]? = some c → fc i = Int32.ofNat c) : ∀ (R P : List Nat) (m : Nat), L = P ++ R → m ≤ P.length → sGo none 245 d 28 [some (.ref 60), some (.int t), some (.int 0), some (.int (Int32.ofNat m)), some (.int (Int32.ofNat P.length))] [] h (fun r h' => h' = h ∧ r = some (.int (Int32.ofNat (fcN W (W * H) TT n R m)))) := by
  intro R
  induction R with
  | nil =>
    intro P m hL hm
    rw [List.append_nil] at hL
    subst hL
    have ei := ofN_toInt (n := L.length) (by omega)
    have e6 : (J 31).toInt = ((L.length : Nat) : Int) := by rw [j31]; exact ei
    refine g_iload (i := 4) rfl rfl ?_
    refine g_aload_n (i := 0) rfl rfl ?_
    refine g_getfield (v := .int (J 31)) rfl hr (by decide) rfl ?_
    refine g_icmp_ge 61 rfl rfl (fun _ => ?_) (fun hc => absurd hc (by rw [i_le, e6, ei]; omega))
    refine g_iload_n (i := 3) rfl rfl ?_
    refine g_ireturn (ty := .int) rfl rfl rfl ?_
    exact ⟨rfl, rfl⟩
  | cons C R ih =>
    intro P m hL hm
    have hlen : L.length = P.length + (R.length + 1) := by rw [hL, List.length_append, List.length_cons]
    have ei := ofN_toInt (n := P.length) (by omega)
    have e6 : (J 31).toInt = ((L.length : Nat) : Int) := by rw [j31]; exact ofN_toInt (by omega)
    have hC := hk C (by rw [hL]; exact List.mem_append_right _ (List.mem_cons_self ..))
    have hat : L[P.length]? = some C := by rw [hL, List.getElem?_append_right (Nat.le_refl _), Nat.sub_self]; rfl
    have hfc := p1 P.length C hat
    have hL2 : L = (P ++ [C]) ++ R := by rw [hL, List.append_assoc]; rfl
    have hP1 : (P ++ [C]).length = P.length + 1 := by rw [List.length_append]; rfl
    have hcx : (Int32.ofNat C).toInt = ((C : Nat) : Int) := ofB_toInt (by omega)
    refine g_iload (i := 4) rfl rfl ?_
    refine g_aload_n (i := 0) rfl rfl ?_
    refine g_getfield (v := .int (J 31)) rfl hr (by decide) rfl ?_
    refine g_icmp_ge 61 rfl rfl (fun hc => absurd hc (by rw [i_le, e6, ei]; omega)) (fun _ => ?_)
    refine g_aload_n (i := 0) rfl rfl ?_
    refine g_aload_n (i := 0) rfl rfl ?_
    refine g_getfield (v := .ref 76) rfl hr (by decide) rfl ?_
    refine g_iload (i := 4) rfl rfl ?_
    refine g_iaload (n := 1000) (f := fc) rfl h76 (i_in (by omega) (by omega)) ?_
    rw [i_nat ei, hfc]
    refine g_iload_n (i := 1) rfl rfl ?_
    refine g_virt2 (Qc := fun r h' => h' = h ∧ (((fitP W (W * H) C TT n) ∧ r = some (.int 1)) ∨ (¬ (fitP W (W * H) C TT n) ∧ r = some (.int 0)))) rfl (by decide) rfl hr rfl (Nat.le_of_ble_eq_true rfl) (s_isFit (d := d) (by omega) hr g hcx hC.1 hT hT8 a6 a8 hz RT1) (fun r h hq9 => ?_)
    obtain ⟨rfl, ⟨c_1, rfl⟩ | ⟨c_1, rfl⟩⟩ := hq9
    · skip
      refine g_if_eq 55 rfl rfl (fun hc => absurd hc (by decide)) (fun _ => ?_)
      refine g_iinc (i := 3) (L1 := [some (.ref 60), some (.int t), some (.int 0), some (.int ((Int32.ofNat m) + Int32.ofInt 1)), some (.int (Int32.ofNat P.length))]) rfl rfl rfl ?_
      rw [ofN_add (by omega)]
      refine g_iinc (i := 4) (L1 := [some (.ref 60), some (.int t), some (.int 0), some (.int (Int32.ofNat (m + 1))), some (.int ((Int32.ofNat P.length) + Int32.ofInt 1))]) rfl rfl rfl ?_
      rw [ofN_add (by omega)]
      refine g_goto 28 rfl rfl ?_
      rw [fcN_y c_1]
      have key := ih (P ++ [C]) (m + 1) hL2 (by omega)
      rw [hP1] at key
      exact key
    · skip
      refine g_if_eq 55 rfl rfl (fun _ => ?_) (fun hc => absurd hc (by decide))
      refine g_iinc (i := 4) (L1 := [some (.ref 60), some (.int t), some (.int 0), some (.int (Int32.ofNat m)), some (.int ((Int32.ofNat P.length) + Int32.ofInt 1))]) rfl rfl rfl ?_
      rw [ofN_add (by omega)]
      refine g_goto 28 rfl rfl ?_
      rw [fcN_n c_1]
      have key := ih (P ++ [C]) m hL2 (by omega)
      rw [hP1] at key
      exact key
theorem s_sure12_go {d : Nat} {h : sHp} {J sz fc : Nat → Int32} {W H n : Nat} {t : Int32} {T : Nat} {TT : Nat → Int32} {cl : Nat → Int64} {L : List Nat} {y : Int32} (hd1 : 4 ≤ d) (hr : h[60]? = some (mO J)) (g : gdM J W H) (hT : t.toInt = T) (hT8 : T < 8) (a6 : h[69]? = some (.inl (0, 8, .inl sz))) (a8 : h[71]? = some (.inl (1, 800, .inr (.inl cl)))) (hz : sz T = Int32.ofNat n) (RT1 : RT cl T n TT) (hk : ∀ C ∈ L, C < 7000 ∧ ¬ C / 1000 = 3) (hl : L.length ≤ 644) (j31 : J 31 = Int32.ofNat L.length) (h76 : h[76]? = some (.inl (0, 1000, .inl fc))) (p1 : ∀ i c, L[i]? = some c → fc i = Int32.ofNat c) : ∀ (R P : List Nat) (m : Nat) (x : Int64), L = P ++ R → m ≤ P.length → sGo none 246 d 53 [some (.ref 60), some (.int t), some (.int y), some (.int 0), some (.long x), none, some (.int (if m = 0 then 0 else 1)), some (.int (Int32.ofNat P.length))] [] h (fun r h' => h' = h ∧ r = some (.long (if fcN W (W * H) TT n R m = 0 then Int64.ofNat 0 else fcX W (W * H) TT n y.toInt R x))) := by
  intro R
  induction R with
  | nil =>
    intro P m x hL hm
    rw [List.append_nil] at hL
    subst hL
    have ei := ofN_toInt (n := L.length) (by omega)
    have e6 : (J 31).toInt = ((L.length : Nat) : Int) := by rw [j31]; exact ei
    show sGo none 246 d 53 _ [] h (fun r h' => h' = h ∧ r = some (.long (if m = 0 then Int64.ofNat 0 else x)))
    by_cases hm0 : m = 0
    · rw [if_pos hm0, if_pos hm0]
      refine g_iload (i := 7) rfl rfl ?_
      refine g_aload_n (i := 0) rfl rfl ?_
      refine g_getfield (v := .int (J 31)) rfl hr (by decide) rfl ?_
      refine g_icmp_ge 106 rfl rfl (fun _ => ?_) (fun hc => absurd hc (by rw [i_le, e6, ei]; omega))
      refine g_iload (i := 6) rfl rfl ?_
      refine g_if_eq 116 rfl rfl (fun _ => ?_) (fun hc => absurd hc (by decide))
      refine g_lconst (n := 0) rfl ?_
      show sGo none 246 _ 117 [some (.ref 60), some (.int t), some (.int y), some (.int 0), some (.long x), none, some (.int 0), some (.int (Int32.ofNat L.length))] [.long (Int64.ofNat 0)] _ _
      refine g_lreturn rfl rfl ?_
      exact ⟨rfl, rfl⟩
    · rw [if_neg hm0, if_neg hm0]
      refine g_iload (i := 7) rfl rfl ?_
      refine g_aload_n (i := 0) rfl rfl ?_
      refine g_getfield (v := .int (J 31)) rfl hr (by decide) rfl ?_
      refine g_icmp_ge 106 rfl rfl (fun _ => ?_) (fun hc => absurd hc (by rw [i_le, e6, ei]; omega))
      refine g_iload (i := 6) rfl rfl ?_
      refine g_if_eq 116 rfl rfl (fun hc => absurd hc (by decide)) (fun _ => ?_)
      refine g_lload (i := 4) rfl rfl ?_
      refine g_goto 117 rfl rfl ?_
      refine g_lreturn rfl rfl ?_
      exact ⟨rfl, rfl⟩
  | cons C R ih =>
    intro P m x hL hm
    have hlen : L.length = P.length + (R.length + 1) := by rw [hL, List.length_append, List.length_cons]
    have ei := ofN_toInt (n := P.length) (by omega)
    have e6 : (J 31).toInt = ((L.length : Nat) : Int) := by rw [j31]; exact ofN_toInt (by omega)
    have hC := hk C (by rw [hL]; exact List.mem_append_right _ (List.mem_cons_self ..))
    have hat : L[P.length]? = some C := by rw [hL, List.getElem?_append_right (Nat.le_refl _), Nat.sub_self]; rfl
    have hfc := p1 P.length C hat
    have hL2 : L = (P ++ [C]) ++ R := by rw [hL, List.append_assoc]; rfl
    have hP1 : (P ++ [C]).length = P.length + 1 := by rw [List.length_append]; rfl
    have hcx : (Int32.ofNat C).toInt = ((C : Nat) : Int) := ofB_toInt (by omega)
    refine g_iload (i := 7) rfl rfl ?_
    refine g_aload_n (i := 0) rfl rfl ?_
    refine g_getfield (v := .int (J 31)) rfl hr (by decide) rfl ?_
    refine g_icmp_ge 106 rfl rfl (fun hc => absurd hc (by rw [i_le, e6, ei]; omega)) (fun _ => ?_)
    refine g_aload_n (i := 0) rfl rfl ?_
    refine g_aload_n (i := 0) rfl rfl ?_
    refine g_getfield (v := .ref 76) rfl hr (by decide) rfl ?_
    refine g_iload (i := 7) rfl rfl ?_
    refine g_iaload (n := 1000) (f := fc) rfl h76 (i_in (by omega) (by omega)) ?_
    rw [i_nat ei, hfc]
    refine g_iload_n (i := 1) rfl rfl ?_
    refine g_virt2 (Qc := fun r h' => h' = h ∧ (((fitP W (W * H) C TT n) ∧ r = some (.int 1)) ∨ (¬ (fitP W (W * H) C TT n) ∧ r = some (.int 0)))) rfl (by decide) rfl hr rfl (Nat.le_of_ble_eq_true rfl) (s_isFit (d := d) (by omega) hr g hcx hC.1 hT hT8 a6 a8 hz RT1) (fun r h hq9 => ?_)
    obtain ⟨rfl, ⟨c_1, rfl⟩ | ⟨c_1, rfl⟩⟩ := hq9
    · skip
      refine g_if_ne 80 rfl rfl (fun _ => ?_) (fun hc => absurd hc (by decide))
      refine g_iconst (n := 1) rfl ?_
      refine g_istore (i := 6) (L1 := [some (.ref 60), some (.int t), some (.int y), some (.int 0), some (.long x), none, some (.int (Int32.ofInt 1)), some (.int (Int32.ofNat P.length))]) rfl (Nat.le_of_ble_eq_true rfl) rfl ?_
      refine g_lload (i := 4) rfl rfl ?_
      refine g_aload_n (i := 0) rfl rfl ?_
      refine g_aload_n (i := 0) rfl rfl ?_
      refine g_getfield (v := .ref 76) rfl hr (by decide) rfl ?_
      refine g_iload (i := 7) rfl rfl ?_
      refine g_iaload (n := 1000) (f := fc) rfl h76 (i_in (by omega) (by omega)) ?_
      rw [i_nat ei, hfc]
      refine g_iload_n (i := 2) rfl rfl ?_
      refine g_virt2 (Qc := fun r h' => h' = h ∧ r = some (.long (sdS W (W * H) C y.toInt))) rfl (by decide) rfl hr rfl (Nat.le_of_ble_eq_true rfl) (s_sideOf12 (d := d) (side := y) (by omega) hr g hcx hC.1) (fun r h hq9 => ?_)
      obtain ⟨rfl, rfl⟩ := hq9
      refine g_land rfl ?_
      refine g_lstore (i := 4) (L1 := [some (.ref 60), some (.int t), some (.int y), some (.int 0), some (.long (x &&& (sdS W (W * H) C y.toInt))), none, some (.int (Int32.ofInt 1)), some (.int (Int32.ofNat P.length))]) rfl (Nat.le_of_ble_eq_true rfl) rfl ?_
      refine g_iinc (i := 7) (L1 := [some (.ref 60), some (.int t), some (.int y), some (.int 0), some (.long (x &&& (sdS W (W * H) C y.toInt))), none, some (.int (Int32.ofInt 1)), some (.int ((Int32.ofNat P.length) + Int32.ofInt 1))]) rfl rfl rfl ?_
      rw [ofN_add (by omega)]
      refine g_goto 53 rfl rfl ?_
      rw [fcN_y c_1, fcX_y c_1]
      have key := ih (P ++ [C]) (m + 1) (x &&& sdS W (W * H) C y.toInt) hL2 (by omega)
      rw [hP1, if_neg (show ¬ m + 1 = 0 by omega)] at key
      exact key
    · skip
      refine g_if_ne 80 rfl rfl (fun hc => absurd hc (by decide)) (fun _ => ?_)
      refine g_goto 100 rfl rfl ?_
      refine g_iinc (i := 7) (L1 := [some (.ref 60), some (.int t), some (.int y), some (.int 0), some (.long x), none, some (.int (if m = 0 then 0 else 1)), some (.int ((Int32.ofNat P.length) + Int32.ofInt 1))]) rfl rfl rfl ?_
      rw [ofN_add (by omega)]
      refine g_goto 53 rfl rfl ?_
      rw [fcN_n c_1, fcX_n c_1]
      have key := ih (P ++ [C]) m x hL2 (by omega)
      rw [hP1] at key
      exact key
theorem s_old12n {d : Nat} {h : sHp} {J hd R : Nat → Int32} {t b : Int32} {B : Nat} (hd1 : 3 ≤ d) (hr : h[60]? = some (mO J)) (hR : h[61]? = some (rFc R)) (a4 : h[67]? = some (.inl (0, 8, .inl hd))) (hb : b.toInt = -(B : Int)) (hB : 1 ≤ B ∧ B ≤ 7) (hx : ((0 ≤ t.toInt ∧ t.toInt < 8) ∧ wtS hd t.toInt.toNat 1 = b) ∨ (¬ (0 ≤ t.toInt ∧ t.toInt < 8) ∧ b = -1)) : sDo d 245 [.ref 60, .int t] h (fun r h' => r = some (.int b)) := by
  have hb0 : ¬ b = 0 := fun z => by rw [z] at hb; have e : (0 : Int32).toInt = 0 := rfl; omega
  refine sDo_of1 (nL := 5) (L := [some (.ref 60), some (.int t), none, none, none]) (by omega) rfl rfl ?_
  refine g_aload_n (i := 0) rfl rfl ?_
  refine g_iload_n (i := 1) rfl rfl ?_
  refine g_iconst (n := 1) rfl ?_
  refine g_virt2 (Qc := fun r h' => h' = h ∧ r = some (.int b)) rfl (by decide) rfl hr rfl (Nat.le_of_ble_eq_true rfl) (sDo_mono (s_wantsE (w := Int32.ofInt 1) (by omega) hr a4 (Or.inl rfl)) (fun r h9 q => ⟨q.1, ?_⟩)) (fun r h hq9 => ?_)
  · rcases q.2 with ⟨z, q2⟩ | ⟨z, q2⟩
    · rcases hx with ⟨-, y⟩ | ⟨y, -⟩
      · rw [q2, ← y]; rfl
      · exact absurd z y
    · rcases hx with ⟨y, -⟩ | ⟨-, y⟩
      · exact absurd y z
      · rw [q2, y]
  obtain ⟨rfl, rfl⟩ := hq9
  refine g_istore_n (i := 2) (L1 := [some (.ref 60), some (.int t), some (.int b), none, none]) rfl (Nat.le_of_ble_eq_true rfl) rfl ?_
  refine g_iconst (n := 0) rfl ?_
  refine g_istore_n (i := 3) (L1 := [some (.ref 60), some (.int t), some (.int b), some (.int (Int32.ofInt 0)), none]) rfl (Nat.le_of_ble_eq_true rfl) rfl ?_
  refine g_iload_n (i := 2) rfl rfl ?_
  refine g_if_eq 19 rfl rfl (fun hc => absurd hc (by exact hb0)) (fun _ => ?_)
  refine g_aload_n (i := 0) rfl rfl ?_
  refine g_iload_n (i := 2) rfl rfl ?_
  refine g_virt1 (Qc := fun r h' => r = some (.int b) ∧ h' = h.set 61 (rFc (bump R B))) rfl (by decide) rfl hr rfl (Nat.le_of_ble_eq_true rfl) (s_no2 (by omega) hr hR hb hB) (fun r h9 hq9 => ?_)
  obtain ⟨rfl, rfl⟩ := hq9
  refine g_ireturn (ty := .int) rfl rfl rfl ?_
  exact rfl
theorem s_sure12n {d : Nat} {h : sHp} {J hd R : Nat → Int32} {t b : Int32} {B : Nat} {y : Int32} (hd1 : 3 ≤ d) (hr : h[60]? = some (mO J)) (hR : h[61]? = some (rFc R)) (a4 : h[67]? = some (.inl (0, 8, .inl hd))) (hb : b.toInt = -(B : Int)) (hB : 1 ≤ B ∧ B ≤ 7) (hx : ((0 ≤ t.toInt ∧ t.toInt < 8) ∧ wtS hd t.toInt.toNat 1 = b) ∨ (¬ (0 ≤ t.toInt ∧ t.toInt < 8) ∧ b = -1)) : sDo d 246 [.ref 60, .int t, .int y] h (fun r h' => r = some (.long b.toInt64)) := by
  have hb0 : ¬ b = 0 := fun z => by rw [z] at hb; have e : (0 : Int32).toInt = 0 := rfl; omega
  refine sDo_of1 (nL := 8) (L := [some (.ref 60), some (.int t), some (.int y), none, none, none, none, none]) (by omega) rfl rfl ?_
  refine g_aload_n (i := 0) rfl rfl ?_
  refine g_iload_n (i := 1) rfl rfl ?_
  refine g_iconst (n := 1) rfl ?_
  refine g_virt2 (Qc := fun r h' => h' = h ∧ r = some (.int b)) rfl (by decide) rfl hr rfl (Nat.le_of_ble_eq_true rfl) (sDo_mono (s_wantsE (w := Int32.ofInt 1) (by omega) hr a4 (Or.inl rfl)) (fun r h9 q => ⟨q.1, ?_⟩)) (fun r h hq9 => ?_)
  · rcases q.2 with ⟨z, q2⟩ | ⟨z, q2⟩
    · rcases hx with ⟨-, y⟩ | ⟨y, -⟩
      · rw [q2, ← y]; rfl
      · exact absurd z y
    · rcases hx with ⟨y, -⟩ | ⟨-, y⟩
      · exact absurd y z
      · rw [q2, y]
  obtain ⟨rfl, rfl⟩ := hq9
  refine g_istore_n (i := 3) (L1 := [some (.ref 60), some (.int t), some (.int y), some (.int b), none, none, none, none]) rfl (Nat.le_of_ble_eq_true rfl) rfl ?_
  refine g_iload_n (i := 3) rfl rfl ?_
  refine g_if_eq 18 rfl rfl (fun hc => absurd hc (by exact hb0)) (fun _ => ?_)
  refine g_aload_n (i := 0) rfl rfl ?_
  refine g_iload_n (i := 3) rfl rfl ?_
  refine g_virt1 (Qc := fun r h' => r = some (.int b) ∧ h' = h.set 61 (rFc (bump R B))) rfl (by decide) rfl hr rfl (Nat.le_of_ble_eq_true rfl) (s_no2 (by omega) hr hR hb hB) (fun r h9 hq9 => ?_)
  obtain ⟨rfl, rfl⟩ := hq9
  refine g_i2l rfl ?_
  refine g_lreturn rfl rfl ?_
  exact rfl
theorem s_old12c {d : Nat} {h : sHp} {J sz fc : Nat → Int32} {W H n : Nat} {t : Int32} {T : Nat} {TT : Nat → Int32} {cl : Nat → Int64} (hd1 : 5 ≤ d) (hr : h[60]? = some (mO J)) (g : gdM J W H) (hT : t.toInt = T) (hT8 : T < 8) (a6 : h[69]? = some (.inl (0, 8, .inl sz))) (a8 : h[71]? = some (.inl (1, 800, .inr (.inl cl)))) (hz : sz T = Int32.ofNat n) (RT1 : RT cl T n TT) (hno : sDo (d - 1) 184 [.ref 60, .int t, .int (Int32.ofInt 1)] h (fun r h' => h' = h ∧ r = some (.int 0))) (h76 : h[76]? = some (.inl (0, 1000, .inl fc))) : sDo d 245 [.ref 60, .int t] h (fun r h' => r = some (.int (Int32.ofNat (fcN W (W * H) TT n (lsT W H true true) 0)))) := by
  have w8 := g.2.2.2.1
  have h8 := g.2.2.2.2.2
  refine sDo_of1 (nL := 5) (L := [some (.ref 60), some (.int t), none, none, none]) (by omega) rfl rfl ?_
  refine g_aload_n (i := 0) rfl rfl ?_
  refine g_iload_n (i := 1) rfl rfl ?_
  refine g_iconst (n := 1) rfl ?_
  refine g_virt2 (Qc := fun r h' => h' = h ∧ r = some (.int 0)) rfl (by decide) rfl hr rfl (Nat.le_of_ble_eq_true rfl) (hno) (fun r h hq9 => ?_)
  obtain ⟨rfl, rfl⟩ := hq9
  refine g_istore_n (i := 2) (L1 := [some (.ref 60), some (.int t), some (.int 0), none, none]) rfl (Nat.le_of_ble_eq_true rfl) rfl ?_
  refine g_iconst (n := 0) rfl ?_
  refine g_istore_n (i := 3) (L1 := [some (.ref 60), some (.int t), some (.int 0), some (.int (Int32.ofInt 0)), none]) rfl (Nat.le_of_ble_eq_true rfl) rfl ?_
  refine g_iload_n (i := 2) rfl rfl ?_
  refine g_if_eq 19 rfl rfl (fun _ => ?_) (fun hc => absurd hc (by decide))
  refine g_aload_n (i := 0) rfl rfl ?_
  refine g_bipush (n := 54) rfl ?_
  have hls := s_lists12 (d := d - 1) (kd := (Int8.ofInt 54).toInt32) (b4 := true) (b32 := true) (by omega) g hr h76 (by decide) (by decide) (by decide) (by decide)
  refine g_virt1 rfl (by decide) rfl hr rfl (Nat.le_of_ble_eq_true rfl) hls (fun r h2 hq => ?_)
  obtain ⟨rfl, ⟨J2, fc2, hr2, b2, j31, g76, p1⟩, E2⟩ := hq
  have gM2 : gdM J2 W H := ⟨(b2 0 (by decide)).trans g.1, (b2 1 (by decide)).trans g.2.1, g.2.2⟩
  have A6 := (E2.2 69 (by decide) (by decide)).trans a6
  have A8 := (E2.2 71 (by decide) (by decide)).trans a8
  refine g_iconst (n := 0) rfl ?_
  refine g_istore (i := 4) (L1 := [some (.ref 60), some (.int t), some (.int 0), some (.int (Int32.ofInt 0)), some (.int (Int32.ofInt 0))]) rfl (Nat.le_of_ble_eq_true rfl) rfl ?_
  exact sGo_mono (s_old12_go (d := d - 1) (by omega) hr2 gM2 hT hT8 A6 A8 hz RT1 (ls_k w8 h8) (ls_len w8 h8) j31 g76 p1 (lsT W H true true) [] 0 rfl (by decide)) (fun r h' q => q.2)
theorem s_sure12c {d : Nat} {h : sHp} {J sz fc : Nat → Int32} {W H n : Nat} {t : Int32} {T : Nat} {TT : Nat → Int32} {cl : Nat → Int64} {R : Nat → Int32} {y : Int32} (hd1 : 5 ≤ d) (hr : h[60]? = some (mO J)) (g : gdM J W H) (hT : t.toInt = T) (hT8 : T < 8) (a6 : h[69]? = some (.inl (0, 8, .inl sz))) (a8 : h[71]? = some (.inl (1, 800, .inr (.inl cl)))) (hz : sz T = Int32.ofNat n) (RT1 : RT cl T n TT) (hR : h[61]? = some (rFc R)) (hno : sDo (d - 1) 184 [.ref 60, .int t, .int (Int32.ofInt 1)] h (fun r h' => h' = h ∧ r = some (.int 0))) (h76 : h[76]? = some (.inl (0, 1000, .inl fc))) : sDo d 246 [.ref 60, .int t, .int y] h (fun r h' => ((y.toInt < 0 ∨ 1 < y.toInt) ∧ r = some (.long (-5 : Int32).toInt64)) ∨ (¬ (y.toInt < 0 ∨ 1 < y.toInt) ∧ r = some (.long (if fcN W (W * H) TT n (lsT W H true true) 0 = 0 then Int64.ofNat 0 else fcX W (W * H) TT n y.toInt (lsT W H true true) (stO (fun _ => true) (W * H)))))) := by
  have w8 := g.2.2.2.1
  have h8 := g.2.2.2.2.2
  refine sDo_of1 (nL := 8) (L := [some (.ref 60), some (.int t), some (.int y), none, none, none, none, none]) (by omega) rfl rfl ?_
  refine g_aload_n (i := 0) rfl rfl ?_
  refine g_iload_n (i := 1) rfl rfl ?_
  refine g_iconst (n := 1) rfl ?_
  refine g_virt2 (Qc := fun r h' => h' = h ∧ r = some (.int 0)) rfl (by decide) rfl hr rfl (Nat.le_of_ble_eq_true rfl) (hno) (fun r h hq9 => ?_)
  obtain ⟨rfl, rfl⟩ := hq9
  refine g_istore_n (i := 3) (L1 := [some (.ref 60), some (.int t), some (.int y), some (.int 0), none, none, none, none]) rfl (Nat.le_of_ble_eq_true rfl) rfl ?_
  refine g_iload_n (i := 3) rfl rfl ?_
  refine g_if_eq 18 rfl rfl (fun _ => ?_) (fun hc => absurd hc (by decide))
  refine g_iload_n (i := 2) rfl rfl ?_
  have k_2 : (0 : Int32).toInt = 0 := rfl
  refine g_if_lt 27 rfl rfl (fun c_1 => ?_) (fun c_1 => ?_)
  · skip
    rw [i_lt, k_2] at c_1
    refine g_aload_n (i := 0) rfl rfl ?_
    refine g_bipush (n := (-5)) rfl ?_
    refine g_virt1 (Qc := fun r h' => r = some (.int (-5)) ∧ h' = h.set 61 (rFc (bump R 5))) rfl (by decide) rfl hr rfl (Nat.le_of_ble_eq_true rfl) (s_no2 (X := 5) (by omega) hr hR rfl (by decide)) (fun r h9 hq9 => ?_)
    obtain ⟨rfl, rfl⟩ := hq9
    refine g_i2l rfl ?_
    refine g_lreturn rfl rfl ?_
    exact Or.inl ⟨by omega, rfl⟩
  · skip
    rw [i_lt, k_2] at c_1
    refine g_iload_n (i := 2) rfl rfl ?_
    refine g_iconst (n := 1) rfl ?_
    have k_4 : (Int32.ofInt 1).toInt = 1 := rfl
    refine g_icmp_le 35 rfl rfl (fun c_3 => ?_) (fun c_3 => ?_)
    · skip
      rw [i_le, k_4] at c_3
      refine g_aload_n (i := 0) rfl rfl ?_
      refine g_bipush (n := 54) rfl ?_
      have hls := s_lists12 (d := d - 1) (kd := (Int8.ofInt 54).toInt32) (b4 := true) (b32 := true) (by omega) g hr h76 (by decide) (by decide) (by decide) (by decide)
      refine g_virt1 rfl (by decide) rfl hr rfl (Nat.le_of_ble_eq_true rfl) hls (fun r h2 hq => ?_)
      obtain ⟨rfl, ⟨J2, fc2, hr2, b2, j31, g76, p1⟩, E2⟩ := hq
      have gM2 : gdM J2 W H := ⟨(b2 0 (by decide)).trans g.1, (b2 1 (by decide)).trans g.2.1, g.2.2⟩
      have A6 := (E2.2 69 (by decide) (by decide)).trans a6
      have A8 := (E2.2 71 (by decide) (by decide)).trans a8
      refine g_aload_n (i := 0) rfl rfl ?_
      refine g_virt0 (Qc := fun r h' => h' = h2 ∧ r = some (.long (stO (fun _ => true) (W * H)))) rfl (by decide) rfl hr2 rfl (Nat.le_of_ble_eq_true rfl) (s_all12 (d := d - 1) (by omega) hr2 gM2) (fun r h2 hq9 => ?_)
      obtain ⟨rfl, rfl⟩ := hq9
      refine g_lstore (i := 4) (L1 := [some (.ref 60), some (.int t), some (.int y), some (.int 0), some (.long (stO (fun _ => true) (W * H))), none, none, none]) rfl (Nat.le_of_ble_eq_true rfl) rfl ?_
      refine g_iconst (n := 0) rfl ?_
      refine g_istore (i := 6) (L1 := [some (.ref 60), some (.int t), some (.int y), some (.int 0), some (.long (stO (fun _ => true) (W * H))), none, some (.int (Int32.ofInt 0)), none]) rfl (Nat.le_of_ble_eq_true rfl) rfl ?_
      refine g_iconst (n := 0) rfl ?_
      refine g_istore (i := 7) (L1 := [some (.ref 60), some (.int t), some (.int y), some (.int 0), some (.long (stO (fun _ => true) (W * H))), none, some (.int (Int32.ofInt 0)), some (.int (Int32.ofInt 0))]) rfl (Nat.le_of_ble_eq_true rfl) rfl ?_
      exact sGo_mono (s_sure12_go (d := d - 1) (y := y) (by omega) hr2 gM2 hT hT8 A6 A8 hz RT1 (ls_k w8 h8) (ls_len w8 h8) j31 g76 p1 (lsT W H true true) [] 0 (stO (fun _ => true) (W * H)) rfl (by decide)) (fun r h' q => Or.inr ⟨by omega, q.2⟩)
    · skip
      rw [i_le, k_4] at c_3
      refine g_aload_n (i := 0) rfl rfl ?_
      refine g_bipush (n := (-5)) rfl ?_
      refine g_virt1 (Qc := fun r h' => r = some (.int (-5)) ∧ h' = h.set 61 (rFc (bump R 5))) rfl (by decide) rfl hr rfl (Nat.le_of_ble_eq_true rfl) (s_no2 (X := 5) (by omega) hr hR rfl (by decide)) (fun r h9 hq9 => ?_)
      obtain ⟨rfl, rfl⟩ := hq9
      refine g_i2l rfl ?_
      refine g_lreturn rfl rfl ?_
      exact Or.inl ⟨by omega, rfl⟩
theorem pr7_old (t : Int32) : pairR bR7 149 245 [.int t] := pr_q (c1 := cn_X11_old_0) (c2 := cn_X12_old_0) ch_X11_old_0 ch_X12_old_0 (by decide +kernel) (by decide +kernel) (by decide +kernel) (by decide +kernel) rfl rfl (fun h hH => ⟨bt0 hH, vI0 t, trivial⟩) (fun h hH => ⟨bt60 hH, vI0 t, trivial⟩) (by decide +kernel) (by decide +kernel) (fun h hH hR => by
  obtain ⟨c, m, W, H, N, ik, tf, R, hd, so, sz, co, cl, f, gg, F, g, M, gM, h0, hR43, q4, bs, hN, c11, m6⟩ := un7 hH hR
  have q4' := q4
  obtain ⟨a1, a2, a3, a4, a5, a6, a7, a8⟩ := q4'
  obtain ⟨B, S1, S2, fc, ff, s38, s39, s40⟩ := SO_of hH
  have refd : ∀ (b : Int32) (B : Nat), b.toInt = -(B : Int) → (1 ≤ B ∧ B ≤ 7) → sDo 9 161 [.ref 0, .int t] h (fun r h' => h' = h ∧ r = some (.int b)) → (((0 ≤ t.toInt ∧ t.toInt < 8) ∧ wtS hd t.toInt.toNat 1 = b) ∨ (¬ (0 ≤ t.toInt ∧ t.toInt < 8) ∧ b = -1)) → ∃ v, sDo 10 149 [.ref 0, .int t] h (fun r h1 => r = some v ∧ vE h h1) ∧ ∀ h1, bH h1 → vE h h1 → sDo 10 245 [.ref 60, .int t] h1 (fun r _ => r = some v) := by
    intro b B hb hB hno hx
    refine ⟨_, sDo_mono (s_old11n (d := 10) (by omega) h0 hR43 hb hB hno) (fun r h' q => ⟨q.1, by rw [q.2]; exact vE_43⟩), fun h1 hH1 E => ?_⟩
    obtain ⟨Rm, hRm⟩ := RA_of hH1 (p := 61) (Or.inr rfl)
    exact s_old12n (d := 10) (by omega) (vE_at E M.1 (by decide)) hRm (vE_at E a4 (by decide)) hb hB hx
  have sv : ∀ {h1 : sHp}, scE h h1 → vE h h1 := fun E => ⟨E.1, fun q hq => E.2 q (by omega)⟩
  by_cases hS : 0 ≤ t.toInt ∧ t.toInt < 8
  · obtain ⟨T, hT⟩ : ∃ T : Nat, t.toInt = T := ⟨t.toInt.toNat, by omega⟩
    obtain ⟨ot, z, el, b1, b2, b3⟩ := bs T (by omega)
    have hno := s_noIn (d := 7) (el := el) hH q4 hT (by omega) b1 b3
    rcases hd_3 (bs T (by omega)) with e0 | e1 | e2
    · obtain ⟨B, hB, eB, ew⟩ := nr_b (Or.inl e0)
      exact refd _ B eB hB hno (Or.inl ⟨hS, by rw [show t.toInt.toNat = T by omega]; exact ew⟩)
    · rcases b3 with ⟨e, -⟩ | ⟨-, -, eo, o0, o3, ez, z0, z100, eel⟩ | ⟨e, -⟩
      · rw [e1] at e; exact absurd e (by decide)
      · obtain ⟨n, hn⟩ : ∃ n : Nat, z.toInt = n := ⟨z.toInt.toNat, by omega⟩
        have hz : z = Int32.ofNat n := Int32.toInt_inj.mp (by rw [hn, ofN_toInt (by omega)])
        have hno0 : sDo 9 161 [.ref 0, .int t] h (fun r h' => h' = h ∧ r = some (.int 0)) := sDo_mono hno (fun r h' q => ⟨q.1, by rw [q.2]; unfold nrOf; rw [if_pos e1]⟩)
        have RT1 : RT cl T n (tx el n) := ⟨by omega, by omega, fun i hi => by
            unfold tx
            rw [if_pos hi, eel i (by omega)], fun i hi => if_neg (by omega)⟩
        rw [hz] at b1
        have wt0 : ∀ h1, bH h1 → vE h h1 → sDo 9 184 [.ref 60, .int t, .int (Int32.ofInt 1)] h1 (fun r h' => h' = h1 ∧ r = some (.int 0)) := fun h1 hH1 E => sDo_mono (s_wantsE (d := 9) (w := Int32.ofInt 1) (by omega) (vE_at E M.1 (by decide)) (vE_at E a4 (by decide)) (Or.inl rfl)) (fun r h' q => ⟨q.1, by
          rcases q.2 with ⟨-, q2⟩ | ⟨y, -⟩
          · rw [q2]
            unfold wtS
            rw [show t.toInt.toNat = T by omega, e1]
            rfl
          · exact absurd hS y⟩)
        refine ⟨_, sDo_mono (s_old11c (d := 10) (by omega) h0 F g a1 hT (by omega) (a2 T (by omega)) (by omega) b1 b2 (by omega) s38 s39 s40 hno0) (fun r h' q => ⟨q.1, sv q.2⟩), fun h1 hH1 E => ?_⟩
        obtain ⟨fc1, f76, -, -⟩ := bA60 hH1 (p := 76) (by decide) rfl
        exact s_old12c (d := 10) (by omega) (vE_at E M.1 (by decide)) gM hT (by omega) (vE_at E a6 (by decide)) (vE_at E a8 (by decide)) (by rw [← ez, hz]) RT1 (wt0 h1 hH1 E) f76
      · rw [e1] at e; exact absurd e (by decide)
    · obtain ⟨B, hB, eB, ew⟩ := nr_b (Or.inr e2)
      exact refd _ B eB hB hno (Or.inl ⟨hS, by rw [show t.toInt.toNat = T by omega]; exact ew⟩)
  · exact refd (-1) 1 (by decide) (by decide) (s_noOut (d := 7) hS) (Or.inr ⟨hS, rfl⟩))
theorem pr7_sure (t : Int32) (y : Int32) : pairR bR7 150 246 [.int t, .int y] := pr_q (c1 := cn_X11_sure_0) (c2 := cn_X12_sure_0) ch_X11_sure_0 ch_X12_sure_0 (by decide +kernel) (by decide +kernel) (by decide +kernel) (by decide +kernel) rfl rfl (fun h hH => ⟨bt0 hH, vI0 t, vI0 y, trivial⟩) (fun h hH => ⟨bt60 hH, vI0 t, vI0 y, trivial⟩) (by decide +kernel) (by decide +kernel) (fun h hH hR => by
  obtain ⟨c, m, W, H, N, ik, tf, R, hd, so, sz, co, cl, f, gg, F, g, M, gM, h0, hR43, q4, bs, hN, c11, m6⟩ := un7 hH hR
  have q4' := q4
  obtain ⟨a1, a2, a3, a4, a5, a6, a7, a8⟩ := q4'
  obtain ⟨B, S1, S2, fc, ff, s38, s39, s40⟩ := SO_of hH
  have refd : ∀ (b : Int32) (B : Nat), b.toInt = -(B : Int) → (1 ≤ B ∧ B ≤ 7) → sDo 9 161 [.ref 0, .int t] h (fun r h' => h' = h ∧ r = some (.int b)) → (((0 ≤ t.toInt ∧ t.toInt < 8) ∧ wtS hd t.toInt.toNat 1 = b) ∨ (¬ (0 ≤ t.toInt ∧ t.toInt < 8) ∧ b = -1)) → ∃ v, sDo 10 150 [.ref 0, .int t, .int y] h (fun r h1 => r = some v ∧ vE h h1) ∧ ∀ h1, bH h1 → vE h h1 → sDo 10 246 [.ref 60, .int t, .int y] h1 (fun r _ => r = some v) := by
    intro b B hb hB hno hx
    refine ⟨_, sDo_mono (s_sure11n (y := y) (d := 10) (by omega) h0 hR43 hb hB hno) (fun r h' q => ⟨q.1, by rw [q.2]; exact vE_43⟩), fun h1 hH1 E => ?_⟩
    obtain ⟨Rm, hRm⟩ := RA_of hH1 (p := 61) (Or.inr rfl)
    exact s_sure12n (y := y) (d := 10) (by omega) (vE_at E M.1 (by decide)) hRm (vE_at E a4 (by decide)) hb hB hx
  have sv : ∀ {h1 : sHp}, scE h h1 → vE h h1 := fun E => ⟨E.1, fun q hq => E.2 q (by omega)⟩
  by_cases hS : 0 ≤ t.toInt ∧ t.toInt < 8
  · obtain ⟨T, hT⟩ : ∃ T : Nat, t.toInt = T := ⟨t.toInt.toNat, by omega⟩
    obtain ⟨ot, z, el, b1, b2, b3⟩ := bs T (by omega)
    have hno := s_noIn (d := 7) (el := el) hH q4 hT (by omega) b1 b3
    rcases hd_3 (bs T (by omega)) with e0 | e1 | e2
    · obtain ⟨B, hB, eB, ew⟩ := nr_b (Or.inl e0)
      exact refd _ B eB hB hno (Or.inl ⟨hS, by rw [show t.toInt.toNat = T by omega]; exact ew⟩)
    · rcases b3 with ⟨e, -⟩ | ⟨-, -, eo, o0, o3, ez, z0, z100, eel⟩ | ⟨e, -⟩
      · rw [e1] at e; exact absurd e (by decide)
      · obtain ⟨n, hn⟩ : ∃ n : Nat, z.toInt = n := ⟨z.toInt.toNat, by omega⟩
        have hz : z = Int32.ofNat n := Int32.toInt_inj.mp (by rw [hn, ofN_toInt (by omega)])
        have hno0 : sDo 9 161 [.ref 0, .int t] h (fun r h' => h' = h ∧ r = some (.int 0)) := sDo_mono hno (fun r h' q => ⟨q.1, by rw [q.2]; unfold nrOf; rw [if_pos e1]⟩)
        have RT1 : RT cl T n (tx el n) := ⟨by omega, by omega, fun i hi => by
            unfold tx
            rw [if_pos hi, eel i (by omega)], fun i hi => if_neg (by omega)⟩
        rw [hz] at b1
        have wt0 : ∀ h1, bH h1 → vE h h1 → sDo 9 184 [.ref 60, .int t, .int (Int32.ofInt 1)] h1 (fun r h' => h' = h1 ∧ r = some (.int 0)) := fun h1 hH1 E => sDo_mono (s_wantsE (d := 9) (w := Int32.ofInt 1) (by omega) (vE_at E M.1 (by decide)) (vE_at E a4 (by decide)) (Or.inl rfl)) (fun r h' q => ⟨q.1, by
          rcases q.2 with ⟨-, q2⟩ | ⟨y, -⟩
          · rw [q2]
            unfold wtS
            rw [show t.toInt.toNat = T by omega, e1]
            rfl
          · exact absurd hS y⟩)
        have k1 := s_sure11c (d := 10) (y := y) (by omega) h0 F g hR43 a1 hT (by omega) (a2 T (by omega)) (by omega) b1 b2 (by omega) s38 s39 s40 hno0
        have k2 : ∀ h1, bH h1 → vE h h1 → sDo 10 246 [.ref 60, .int t, .int y] h1 (fun r _ => ((y.toInt < 0 ∨ 1 < y.toInt) ∧ r = some (.long (-5 : Int32).toInt64)) ∨ (¬ (y.toInt < 0 ∨ 1 < y.toInt) ∧ r = some (.long (if fcN W (W * H) (tx el n) n (lsT W H true true) 0 = 0 then Int64.ofNat 0 else fcX W (W * H) (tx el n) n y.toInt (lsT W H true true) (stO (fun _ => true) (W * H)))))) := fun h1 hH1 E => by
          obtain ⟨Rm, hRm⟩ := RA_of hH1 (p := 61) (Or.inr rfl)
          obtain ⟨fc1, f76, -, -⟩ := bA60 hH1 (p := 76) (by decide) rfl
          exact s_sure12c (d := 10) (y := y) (by omega) (vE_at E M.1 (by decide)) gM hT (by omega) (vE_at E a6 (by decide)) (vE_at E a8 (by decide)) (by rw [← ez, hz]) RT1 hRm (wt0 h1 hH1 E) f76
        by_cases hy : y.toInt < 0 ∨ 1 < y.toInt
        · refine ⟨.long (-5 : Int32).toInt64, sDo_mono k1 (fun r h' q => ?_), fun h1 hH1 E => sDo_mono (k2 h1 hH1 E) (fun r h' q => ?_)⟩
          · rcases q with ⟨-, q1, rfl⟩ | ⟨q1, -⟩
            · exact ⟨q1, vE_43⟩
            · exact absurd hy q1
          · rcases q with ⟨-, q1⟩ | ⟨q1, -⟩
            · exact q1
            · exact absurd hy q1
        · refine ⟨.long (if fcN W (W * H) (tx el n) n (lsT W H true true) 0 = 0 then Int64.ofNat 0 else fcX W (W * H) (tx el n) n y.toInt (lsT W H true true) (stO (fun _ => true) (W * H))), sDo_mono k1 (fun r h' q => ?_), fun h1 hH1 E => sDo_mono (k2 h1 hH1 E) (fun r h' q => ?_)⟩
          · rcases q with ⟨q1, -⟩ | ⟨-, q1, q2⟩
            · exact absurd q1 hy
            · exact ⟨q1, sv q2⟩
          · rcases q with ⟨q1, -⟩ | ⟨-, q1⟩
            · exact absurd q1 hy
            · exact q1
      · rw [e1] at e; exact absurd e (by decide)
    · obtain ⟨B, hB, eB, ew⟩ := nr_b (Or.inr e2)
      exact refd _ B eB hB hno (Or.inl ⟨hS, by rw [show t.toInt.toNat = T by omega]; exact ew⟩)
  · exact refd (-1) 1 (by decide) (by decide) (s_noOut (d := 7) hS) (Or.inr ⟨hS, rfl⟩))
end
