/-! ===== the reference's cuts, one after another ===== -/
def rcP (h : sHp) (L : List Nat) (J0 : Nat → Int32) : Prop := ∃ (J fc : Nat → Int32), h[60]? = some (mO J) ∧ (∀ j, j ≠ 31 → J j = J0 j) ∧ J 31 = Int32.ofNat L.length ∧ h[76]? = some (.inl (0, 1000, .inl fc)) ∧ ∀ i c, L[i]? = some c → fc i = Int32.ofNat c
def rsE (h h' : sHp) : Prop := h'.length = h.length ∧ ∀ q, q ≠ 60 → q ≠ 76 → h'[q]? = h[q]?
theorem rsE_rfl {h : sHp} : rsE h h := ⟨rfl, fun _ _ _ => rfl⟩
theorem rsE_tr {a b c : sHp} (x : rsE a b) (y : rsE b c) : rsE a c := ⟨y.1.trans x.1, fun q h1 h2 => (y.2 q h1 h2).trans (x.2 q h1 h2)⟩
theorem s_lists1 {d : Nat} {h : sHp} {L : List Nat} {J0 : Nat → Int32} {x : Int32} {C : Nat} (b : Bool) (hd : 1 ≤ d) (P : rcP h L J0) (hl : L.length < 999) (hx : x = Int32.ofNat C) : sDo d 231 [.ref 60, .int x, .int (if b = true then 1 else 0)] h (fun r h' => r = none ∧ rcP h' (L ++ (if b = true then [C] else [])) J0 ∧ rsE h h') := by
  obtain ⟨J, fc, hr, b0, b6, h76, p1⟩ := id P
  have e6 : (J 31).toInt = ((L.length : Nat) : Int) := by rw [b6]; exact ofN_toInt (by omega)
  cases b
  · rw [if_neg (by decide), if_neg (by decide), List.append_nil]
    refine sDo_of1 (nL := 3) (L := [some (.ref 60), some (.int x), some (.int 0)]) hd rfl rfl ?_
    refine g_iload_n (i := 2) rfl rfl ?_
    refine g_if_eq 21 rfl rfl (fun _ => ?_) (fun hc => absurd hc (by decide))
    refine g_return rfl rfl ?_
    exact ⟨rfl, P, rsE_rfl⟩
  · rw [if_pos rfl, if_pos rfl]
    refine sDo_of1 (nL := 3) (L := [some (.ref 60), some (.int x), some (.int 1)]) hd rfl rfl ?_
    refine g_iload_n (i := 2) rfl rfl ?_
    refine g_if_eq 21 rfl rfl (fun hc => absurd hc (by decide)) (fun _ => ?_)
    refine g_aload_n (i := 0) rfl rfl ?_
    refine g_getfield (v := .ref 76) rfl hr (by decide) rfl ?_
    refine g_aload_n (i := 0) rfl rfl ?_
    refine g_dup rfl rfl ?_
    refine g_getfield (v := .int (J 31)) rfl hr (by decide) rfl ?_
    refine g_dup_x1 rfl rfl rfl ?_
    refine g_iconst (n := 1) rfl ?_
    have k_1 : (Int32.ofInt 1).toInt = 1 := rfl
    refine g_iadd rfl ?_
    have t_2 : ((J 31) + (Int32.ofInt 1)).toInt = ((L.length + 1 : Nat) : Int) := by rw [i_add (by rw [e6, k_1]; omega) (by rw [e6, k_1]; omega), e6, k_1]; omega
    refine g_putfield (h1 := h.set 60 (mO (upd J 31 (J 31 + Int32.ofInt 1)))) rfl hr (by decide) (Nat.le_of_ble_eq_true rfl) rfl rfl ?_
    refine g_iload_n (i := 1) rfl rfl ?_
    refine g_iastore (n := 1000) (f := fc) (h1 := (h.set 60 (mO (upd J 31 (J 31 + Int32.ofInt 1)))).set 76 (.inl (0, 1000, .inl (upd fc L.length x)))) rfl (by rw [s_set_ne (by decide)]; exact h76) (i_in (by omega) (by omega)) (by rw [i_nat e6]) ?_
    refine g_return rfl rfl ?_
    refine ⟨rfl, ⟨upd J 31 (J 31 + Int32.ofInt 1), upd fc L.length x, by rw [s_set_ne (by decide)]; exact s_set_eq hr, fun j hj => (u_ne hj).trans (b0 j hj), ?_, s_set_eq (by rw [s_set_ne (by decide)]; exact h76), fun i c hi => ?_⟩, ⟨by rw [List.length_set, List.length_set], fun q h1 h2 => by rw [s_set_ne (Ne.symm h2), s_set_ne (Ne.symm h1)]⟩⟩
    · rw [u_at, b6, ofN_add (by omega), List.length_append]; rfl
    · rcases app_at hi with ⟨h1, h2⟩ | ⟨rfl, rfl⟩
      · rw [u_ne (by omega)]; exact p1 i c h2
      · rw [u_at]; exact hx
theorem bif_len {b : Bool} {L : List Nat} : (if b = true then L else []).length ≤ L.length := by
  cases b
  · exact Nat.zero_le _
  · exact Nat.le_refl _
theorem bif_app {b : Bool} {A B : List Nat} : (if b = true then A else []) ++ (if b = true then B else []) = if b = true then A ++ B else [] := by
  cases b <;> rfl
theorem s_lm_str {d : Nat} {h0 : sHp} {W H : Nat} {J0 : Nat → Int32} {kd : Int32} {Q : Option Value → sHp → Prop} (hd : 2 ≤ d) (g : gdM J0 W H) {o3 o4 : Option Value} (hk : ¬ (kd &&& Int32.ofInt 2 = 0)) : ∀ (f v : Nat) (h : sHp) (L : List Nat), v + f = W → 1 ≤ v → L.length + (strT f v).length ≤ 644 → rsE h0 h → rcP h L J0 → (∀ (h' : sHp), rsE h0 h' → rcP h' (L ++ strT f v) J0 → sGo none 232 d 44 [some (.ref 60), some (.int kd), some (.int (Int32.ofNat W)), o3, o4] [] h' Q) → sGo none 232 d 7 [some (.ref 60), some (.int kd), some (.int (Int32.ofNat v)), o3, o4] [] h Q := by
  obtain ⟨gw, gh, w2, w8, h2, h8⟩ := id g
  have hw0 : (J0 0).toInt = ((W : Nat) : Int) := by rw [gw]; exact ofN_toInt (by omega)
  have hw1 : (J0 1).toInt = ((H : Nat) : Int) := by rw [gh]; exact ofN_toInt (by omega)
  intro f
  induction f with
  | zero =>
    intro v h L hv hv1 hl E P hQ
    have ek := ofN_toInt (n := v) (by omega)
    obtain ⟨J, fc, hr, b0, b6, h76, -⟩ := id P
    have j0 : (J 0).toInt = ((W : Nat) : Int) := by rw [b0 0 (by decide)]; exact hw0
    have j1 : (J 1).toInt = ((H : Nat) : Int) := by rw [b0 1 (by decide)]; exact hw1
    refine g_iload_n (i := 2) rfl rfl ?_
    refine g_aload_n (i := 0) rfl rfl ?_
    refine g_getfield (v := .int (J 0)) rfl hr (by decide) rfl ?_
    refine g_icmp_ge 44 rfl rfl (fun _ => ?_) (fun hc => absurd hc (by rw [i_le, j0, ek]; omega))
    have key := hQ h E (by rw [show strT 0 v = [] from rfl, List.append_nil]; exact P)
    rw [show v = W by omega]
    exact key
  | succ f ih =>
    intro v h L hv hv1 hl E P hQ
    have ek := ofN_toInt (n := v) (by omega)
    obtain ⟨J, fc, hr, b0, b6, h76, -⟩ := id P
    have j0 : (J 0).toInt = ((W : Nat) : Int) := by rw [b0 0 (by decide)]; exact hw0
    have j1 : (J 1).toInt = ((H : Nat) : Int) := by rw [b0 1 (by decide)]; exact hw1
    rw [show strT (f + 1) v = (1000 + 100 * v) :: strT f (v + 1) from rfl] at hl hQ
    have hl5 := hl
    rw [List.length_cons] at hl5
    refine g_iload_n (i := 2) rfl rfl ?_
    refine g_aload_n (i := 0) rfl rfl ?_
    refine g_getfield (v := .int (J 0)) rfl hr (by decide) rfl ?_
    refine g_icmp_ge 44 rfl rfl (fun hc => absurd hc (by rw [i_le, j0, ek]; omega)) (fun _ => ?_)
    refine g_aload_n (i := 0) rfl rfl ?_
    refine g_sipush (n := 1000) rfl ?_
    refine g_bipush (n := 100) rfl ?_
    refine g_iload_n (i := 2) rfl rfl ?_
    have k_1 : ((Int8.ofInt 100).toInt32).toInt = 100 := rfl
    refine g_imul rfl ?_
    have t_2 : (((Int8.ofInt 100).toInt32 * (Int32.ofNat v))).toInt = ((100 * v : Nat) : Int) := n_mul (X := 100) (Y := v) (show _ = ((100 : Nat) : Int) from k_1) (show _ = ((v : Nat) : Int) from ek) (by omega)
    have k_3 : ((Int16.ofInt 1000).toInt32).toInt = 1000 := rfl
    refine g_iadd rfl ?_
    have t_4 : ((Int16.ofInt 1000).toInt32 + ((Int8.ofInt 100).toInt32 * (Int32.ofNat v))).toInt = ((1000 + 100 * v : Nat) : Int) := by rw [i_add (by rw [k_3, t_2]; omega) (by rw [k_3, t_2]; omega), k_3, t_2]; omega
    refine g_iload_n (i := 1) rfl rfl ?_
    refine g_iconst (n := 2) rfl ?_
    refine g_iand rfl ?_
    refine g_if_eq 34 rfl rfl (fun hc => absurd hc (by exact hk)) (fun _ => ?_)
    refine g_iconst (n := 1) rfl ?_
    refine g_goto 35 rfl rfl ?_
    have hadd := s_lists1 (d := d) (C := 1000 + 100 * v) (x := ((Int16.ofInt 1000).toInt32 + ((Int8.ofInt 100).toInt32 * (Int32.ofNat v)))) true (by omega) P (by omega) (of_b (show (((Int16.ofInt 1000).toInt32 + ((Int8.ofInt 100).toInt32 * (Int32.ofNat v)))).toInt = ((1000 + 100 * v : Nat) : Int) by rw [t_4] <;> omega) (by omega))
    refine g_virt2 (Qc := fun r h' => r = none ∧ rcP h' (L ++ [1000 + 100 * v]) J0 ∧ rsE h h') rfl (by decide) rfl hr rfl (Nat.le_of_ble_eq_true rfl) (hadd) (fun r h9 hq9 => ?_)
    obtain ⟨rfl, P1, E1⟩ := hq9
    refine g_iinc (i := 2) (L1 := [some (.ref 60), some (.int kd), some (.int ((Int32.ofNat v) + Int32.ofInt 1)), o3, o4]) rfl rfl rfl ?_
    rw [ofN_add (by omega)]
    refine g_goto 7 rfl rfl ?_
    exact ih (v + 1) h9 (L ++ [1000 + 100 * v]) (by omega) (by omega) (by rw [List.length_append]; rw [List.length_cons] at hl; show L.length + 1 + _ ≤ 644; omega) (rsE_tr E E1) P1 (fun h' e p => hQ h' e (by rw [List.append_assoc] at p; exact p))
theorem s_lm_al {d : Nat} {h0 : sHp} {W H : Nat} {J0 : Nat → Int32} {kd : Int32} {Q : Option Value → sHp → Prop} (hd : 2 ≤ d) (g : gdM J0 W H) {o3 o4 : Option Value} (hk : ¬ (kd &&& (Int8.ofInt 16).toInt32 = 0)) : ∀ (f v : Nat) (h : sHp) (L : List Nat), v + f = H → 1 ≤ v → L.length + (alT f v).length ≤ 644 → rsE h0 h → rcP h L J0 → (∀ (h' : sHp), rsE h0 h' → rcP h' (L ++ alT f v) J0 → sGo none 232 d 165 [some (.ref 60), some (.int kd), some (.int (Int32.ofNat H)), o3, o4] [] h' Q) → sGo none 232 d 127 [some (.ref 60), some (.int kd), some (.int (Int32.ofNat v)), o3, o4] [] h Q := by
  obtain ⟨gw, gh, w2, w8, h2, h8⟩ := id g
  have hw0 : (J0 0).toInt = ((W : Nat) : Int) := by rw [gw]; exact ofN_toInt (by omega)
  have hw1 : (J0 1).toInt = ((H : Nat) : Int) := by rw [gh]; exact ofN_toInt (by omega)
  intro f
  induction f with
  | zero =>
    intro v h L hv hv1 hl E P hQ
    have ek := ofN_toInt (n := v) (by omega)
    obtain ⟨J, fc, hr, b0, b6, h76, -⟩ := id P
    have j0 : (J 0).toInt = ((W : Nat) : Int) := by rw [b0 0 (by decide)]; exact hw0
    have j1 : (J 1).toInt = ((H : Nat) : Int) := by rw [b0 1 (by decide)]; exact hw1
    refine g_iload_n (i := 2) rfl rfl ?_
    refine g_aload_n (i := 0) rfl rfl ?_
    refine g_getfield (v := .int (J 1)) rfl hr (by decide) rfl ?_
    refine g_icmp_ge 165 rfl rfl (fun _ => ?_) (fun hc => absurd hc (by rw [i_le, j1, ek]; omega))
    have key := hQ h E (by rw [show alT 0 v = [] from rfl, List.append_nil]; exact P)
    rw [show v = H by omega]
    exact key
  | succ f ih =>
    intro v h L hv hv1 hl E P hQ
    have ek := ofN_toInt (n := v) (by omega)
    obtain ⟨J, fc, hr, b0, b6, h76, -⟩ := id P
    have j0 : (J 0).toInt = ((W : Nat) : Int) := by rw [b0 0 (by decide)]; exact hw0
    have j1 : (J 1).toInt = ((H : Nat) : Int) := by rw [b0 1 (by decide)]; exact hw1
    rw [show alT (f + 1) v = (4000 + 100 * v) :: alT f (v + 1) from rfl] at hl hQ
    have hl5 := hl
    rw [List.length_cons] at hl5
    refine g_iload_n (i := 2) rfl rfl ?_
    refine g_aload_n (i := 0) rfl rfl ?_
    refine g_getfield (v := .int (J 1)) rfl hr (by decide) rfl ?_
    refine g_icmp_ge 165 rfl rfl (fun hc => absurd hc (by rw [i_le, j1, ek]; omega)) (fun _ => ?_)
    refine g_aload_n (i := 0) rfl rfl ?_
    refine g_sipush (n := 4000) rfl ?_
    refine g_bipush (n := 100) rfl ?_
    refine g_iload_n (i := 2) rfl rfl ?_
    have k_1 : ((Int8.ofInt 100).toInt32).toInt = 100 := rfl
    refine g_imul rfl ?_
    have t_2 : (((Int8.ofInt 100).toInt32 * (Int32.ofNat v))).toInt = ((100 * v : Nat) : Int) := n_mul (X := 100) (Y := v) (show _ = ((100 : Nat) : Int) from k_1) (show _ = ((v : Nat) : Int) from ek) (by omega)
    have k_3 : ((Int16.ofInt 4000).toInt32).toInt = 4000 := rfl
    refine g_iadd rfl ?_
    have t_4 : ((Int16.ofInt 4000).toInt32 + ((Int8.ofInt 100).toInt32 * (Int32.ofNat v))).toInt = ((4000 + 100 * v : Nat) : Int) := by rw [i_add (by rw [k_3, t_2]; omega) (by rw [k_3, t_2]; omega), k_3, t_2]; omega
    refine g_iload_n (i := 1) rfl rfl ?_
    refine g_bipush (n := 16) rfl ?_
    refine g_iand rfl ?_
    refine g_if_eq 155 rfl rfl (fun hc => absurd hc (by exact hk)) (fun _ => ?_)
    refine g_iconst (n := 1) rfl ?_
    refine g_goto 156 rfl rfl ?_
    have hadd := s_lists1 (d := d) (C := 4000 + 100 * v) (x := ((Int16.ofInt 4000).toInt32 + ((Int8.ofInt 100).toInt32 * (Int32.ofNat v)))) true (by omega) P (by omega) (of_b (show (((Int16.ofInt 4000).toInt32 + ((Int8.ofInt 100).toInt32 * (Int32.ofNat v)))).toInt = ((4000 + 100 * v : Nat) : Int) by rw [t_4] <;> omega) (by omega))
    refine g_virt2 (Qc := fun r h' => r = none ∧ rcP h' (L ++ [4000 + 100 * v]) J0 ∧ rsE h h') rfl (by decide) rfl hr rfl (Nat.le_of_ble_eq_true rfl) (hadd) (fun r h9 hq9 => ?_)
    obtain ⟨rfl, P1, E1⟩ := hq9
    refine g_iinc (i := 2) (L1 := [some (.ref 60), some (.int kd), some (.int ((Int32.ofNat v) + Int32.ofInt 1)), o3, o4]) rfl rfl rfl ?_
    rw [ofN_add (by omega)]
    refine g_goto 127 rfl rfl ?_
    exact ih (v + 1) h9 (L ++ [4000 + 100 * v]) (by omega) (by omega) (by rw [List.length_append]; rw [List.length_cons] at hl; show L.length + 1 + _ ≤ 644; omega) (rsE_tr E E1) P1 (fun h' e p => hQ h' e (by rw [List.append_assoc] at p; exact p))
theorem s_lm_bn3 {d : Nat} {h0 : sHp} {W H : Nat} {J0 : Nat → Int32} {kd : Int32} {Q : Option Value → sHp → Prop} (hd : 2 ≤ d) (g : gdM J0 W H) {a b : Nat} (ha : a ≤ 8) (hb : b ≤ 8) {b4 : Bool} (hk : b4 = true ↔ ¬ (kd &&& Int32.ofInt 4 = 0)) : ∀ (f v : Nat) (h : sHp) (L : List Nat), v + f = W + 1 → True → L.length + (bnT3 f v a b).length ≤ 644 → rsE h0 h → rcP h L J0 → (∀ (h' : sHp), rsE h0 h' → rcP h' (L ++ (if b4 = true then bnT3 f v a b else [])) J0 → sGo none 232 d 113 [some (.ref 60), some (.int kd), some (.int (Int32.ofNat a)), some (.int (Int32.ofNat b)), some (.int (Int32.ofNat (W + 1)))] [] h' Q) → sGo none 232 d 67 [some (.ref 60), some (.int kd), some (.int (Int32.ofNat a)), some (.int (Int32.ofNat b)), some (.int (Int32.ofNat v))] [] h Q := by
  obtain ⟨gw, gh, w2, w8, h2, h8⟩ := id g
  have hw0 : (J0 0).toInt = ((W : Nat) : Int) := by rw [gw]; exact ofN_toInt (by omega)
  have hw1 : (J0 1).toInt = ((H : Nat) : Int) := by rw [gh]; exact ofN_toInt (by omega)
  intro f
  induction f with
  | zero =>
    intro v h L hv hv1 hl E P hQ
    have ek := ofN_toInt (n := v) (by omega)
    obtain ⟨J, fc, hr, b0, b6, h76, -⟩ := id P
    have j0 : (J 0).toInt = ((W : Nat) : Int) := by rw [b0 0 (by decide)]; exact hw0
    have j1 : (J 1).toInt = ((H : Nat) : Int) := by rw [b0 1 (by decide)]; exact hw1
    refine g_iload (i := 4) rfl rfl ?_
    refine g_aload_n (i := 0) rfl rfl ?_
    refine g_getfield (v := .int (J 0)) rfl hr (by decide) rfl ?_
    refine g_icmp_gt 113 rfl rfl (fun _ => ?_) (fun hc => absurd hc (by rw [i_lt, j0, ek]; omega))
    have key := hQ h E (by rw [show (if b4 = true then bnT3 0 v a b else []) = [] from by cases b4 <;> rfl, List.append_nil]; exact P)
    rw [show v = W + 1 by omega]
    exact key
  | succ f ih =>
    intro v h L hv hv1 hl E P hQ
    have ek := ofN_toInt (n := v) (by omega)
    obtain ⟨J, fc, hr, b0, b6, h76, -⟩ := id P
    have j0 : (J 0).toInt = ((W : Nat) : Int) := by rw [b0 0 (by decide)]; exact hw0
    have j1 : (J 1).toInt = ((H : Nat) : Int) := by rw [b0 1 (by decide)]; exact hw1
    rw [show bnT3 (f + 1) v a b = (2000 + 100 * a + 10 * b + v) :: bnT3 f (v + 1) a b from rfl] at hl hQ
    have ea := ofN_toInt (n := a) (by omega)
    have eb := ofN_toInt (n := b) (by omega)
    have hl5 := hl
    rw [List.length_cons] at hl5
    refine g_iload (i := 4) rfl rfl ?_
    refine g_aload_n (i := 0) rfl rfl ?_
    refine g_getfield (v := .int (J 0)) rfl hr (by decide) rfl ?_
    refine g_icmp_gt 113 rfl rfl (fun hc => absurd hc (by rw [i_lt, j0, ek]; omega)) (fun _ => ?_)
    refine g_aload_n (i := 0) rfl rfl ?_
    refine g_sipush (n := 2000) rfl ?_
    refine g_bipush (n := 100) rfl ?_
    refine g_iload_n (i := 2) rfl rfl ?_
    have k_1 : ((Int8.ofInt 100).toInt32).toInt = 100 := rfl
    refine g_imul rfl ?_
    have t_2 : (((Int8.ofInt 100).toInt32 * (Int32.ofNat a))).toInt = ((100 * a : Nat) : Int) := n_mul (X := 100) (Y := a) (show _ = ((100 : Nat) : Int) from k_1) (show _ = ((a : Nat) : Int) from ea) (by omega)
    have k_3 : ((Int16.ofInt 2000).toInt32).toInt = 2000 := rfl
    refine g_iadd rfl ?_
    have t_4 : ((Int16.ofInt 2000).toInt32 + ((Int8.ofInt 100).toInt32 * (Int32.ofNat a))).toInt = ((2000 + 100 * a : Nat) : Int) := by rw [i_add (by rw [k_3, t_2]; omega) (by rw [k_3, t_2]; omega), k_3, t_2]; omega
    refine g_bipush (n := 10) rfl ?_
    refine g_iload_n (i := 3) rfl rfl ?_
    have k_5 : ((Int8.ofInt 10).toInt32).toInt = 10 := rfl
    refine g_imul rfl ?_
    have t_6 : (((Int8.ofInt 10).toInt32 * (Int32.ofNat b))).toInt = ((10 * b : Nat) : Int) := n_mul (X := 10) (Y := b) (show _ = ((10 : Nat) : Int) from k_5) (show _ = ((b : Nat) : Int) from eb) (by omega)
    refine g_iadd rfl ?_
    have t_7 : (((Int16.ofInt 2000).toInt32 + ((Int8.ofInt 100).toInt32 * (Int32.ofNat a))) + ((Int8.ofInt 10).toInt32 * (Int32.ofNat b))).toInt = ((2000 + 100 * a + 10 * b : Nat) : Int) := by rw [i_add (by rw [t_4, t_6]; omega) (by rw [t_4, t_6]; omega), t_4, t_6]; omega
    refine g_iload (i := 4) rfl rfl ?_
    refine g_iadd rfl ?_
    have t_8 : ((((Int16.ofInt 2000).toInt32 + ((Int8.ofInt 100).toInt32 * (Int32.ofNat a))) + ((Int8.ofInt 10).toInt32 * (Int32.ofNat b))) + (Int32.ofNat v)).toInt = ((2000 + 100 * a + 10 * b + v : Nat) : Int) := by rw [i_add (by rw [t_7, ek]; omega) (by rw [t_7, ek]; omega), t_7, ek]; omega
    refine g_iload_n (i := 1) rfl rfl ?_
    refine g_iconst (n := 4) rfl ?_
    refine g_iand rfl ?_
    by_cases hfl : b4 = true
    · skip
      refine g_if_eq 103 rfl rfl (fun hc => absurd hc (by exact hk.mp hfl)) (fun _ => ?_)
      refine g_iconst (n := 1) rfl ?_
      refine g_goto 104 rfl rfl ?_
      have hadd := s_lists1 (d := d) (C := 2000 + 100 * a + 10 * b + v) (x := ((((Int16.ofInt 2000).toInt32 + ((Int8.ofInt 100).toInt32 * (Int32.ofNat a))) + ((Int8.ofInt 10).toInt32 * (Int32.ofNat b))) + (Int32.ofNat v))) true (by omega) P (by omega) (of_b (show (((((Int16.ofInt 2000).toInt32 + ((Int8.ofInt 100).toInt32 * (Int32.ofNat a))) + ((Int8.ofInt 10).toInt32 * (Int32.ofNat b))) + (Int32.ofNat v))).toInt = ((2000 + 100 * a + 10 * b + v : Nat) : Int) by rw [t_8] <;> omega) (by omega))
      refine g_virt2 (Qc := fun r h' => r = none ∧ rcP h' (L ++ [2000 + 100 * a + 10 * b + v]) J0 ∧ rsE h h') rfl (by decide) rfl hr rfl (Nat.le_of_ble_eq_true rfl) (hadd) (fun r h9 hq9 => ?_)
      obtain ⟨rfl, P1, E1⟩ := hq9
      refine g_iinc (i := 4) (L1 := [some (.ref 60), some (.int kd), some (.int (Int32.ofNat a)), some (.int (Int32.ofNat b)), some (.int ((Int32.ofNat v) + Int32.ofInt 1))]) rfl rfl rfl ?_
      rw [ofN_add (by omega)]
      refine g_goto 67 rfl rfl ?_
      exact ih (v + 1) h9 (L ++ [2000 + 100 * a + 10 * b + v]) (by omega) (by omega) (by rw [List.length_append]; rw [List.length_cons] at hl; show L.length + 1 + _ ≤ 644; omega) (rsE_tr E E1) P1 (fun h' e p => hQ h' e (by rw [if_pos hfl] at p ⊢; rw [List.append_assoc] at p; exact p))
    · skip
      refine g_if_eq 103 rfl rfl (fun _ => ?_) (fun hc => absurd hc (by exact fun z => hfl (hk.mpr z)))
      refine g_iconst (n := 0) rfl ?_
      have hadd := s_lists1 (d := d) (C := 2000 + 100 * a + 10 * b + v) (x := ((((Int16.ofInt 2000).toInt32 + ((Int8.ofInt 100).toInt32 * (Int32.ofNat a))) + ((Int8.ofInt 10).toInt32 * (Int32.ofNat b))) + (Int32.ofNat v))) false (by omega) P (by omega) (of_b (show (((((Int16.ofInt 2000).toInt32 + ((Int8.ofInt 100).toInt32 * (Int32.ofNat a))) + ((Int8.ofInt 10).toInt32 * (Int32.ofNat b))) + (Int32.ofNat v))).toInt = ((2000 + 100 * a + 10 * b + v : Nat) : Int) by rw [t_8] <;> omega) (by omega))
      refine g_virt2 (Qc := fun r h' => r = none ∧ rcP h' (L ++ []) J0 ∧ rsE h h') rfl (by decide) rfl hr rfl (Nat.le_of_ble_eq_true rfl) (hadd) (fun r h9 hq9 => ?_)
      obtain ⟨rfl, P1, E1⟩ := hq9
      refine g_iinc (i := 4) (L1 := [some (.ref 60), some (.int kd), some (.int (Int32.ofNat a)), some (.int (Int32.ofNat b)), some (.int ((Int32.ofNat v) + Int32.ofInt 1))]) rfl rfl rfl ?_
      rw [ofN_add (by omega)]
      refine g_goto 67 rfl rfl ?_
      rw [List.append_nil] at P1
      exact ih (v + 1) h9 L (by omega) (by omega) (by rw [List.length_cons] at hl; omega) (rsE_tr E E1) P1 (fun h' e p => hQ h' e (by rw [if_neg hfl] at p ⊢; exact p))
theorem s_lm_bn2 {d : Nat} {h0 : sHp} {W H : Nat} {J0 : Nat → Int32} {kd : Int32} {Q : Option Value → sHp → Prop} (hd : 2 ≤ d) (g : gdM J0 W H) {a : Nat} (ha : a ≤ 8) {b4 : Bool} (hk : b4 = true ↔ ¬ (kd &&& Int32.ofInt 4 = 0)) : ∀ (f v : Nat) (o4 : Option Value) (h : sHp) (L : List Nat), v + f = H → 1 ≤ v → L.length + (bnT2 W f v a).length ≤ 644 → rsE h0 h → rcP h L J0 → (∀ (h' : sHp) (o4 : Option Value), rsE h0 h' → rcP h' (L ++ (if b4 = true then bnT2 W f v a else [])) J0 → sGo none 232 d 119 [some (.ref 60), some (.int kd), some (.int (Int32.ofNat a)), some (.int (Int32.ofNat H)), o4] [] h' Q) → sGo none 232 d 56 [some (.ref 60), some (.int kd), some (.int (Int32.ofNat a)), some (.int (Int32.ofNat v)), o4] [] h Q := by
  obtain ⟨gw, gh, w2, w8, h2, h8⟩ := id g
  have hw0 : (J0 0).toInt = ((W : Nat) : Int) := by rw [gw]; exact ofN_toInt (by omega)
  have hw1 : (J0 1).toInt = ((H : Nat) : Int) := by rw [gh]; exact ofN_toInt (by omega)
  intro f
  induction f with
  | zero =>
    intro v o4 h L hv hv1 hl E P hQ
    have ek := ofN_toInt (n := v) (by omega)
    obtain ⟨J, fc, hr, b0, b6, h76, -⟩ := id P
    have j0 : (J 0).toInt = ((W : Nat) : Int) := by rw [b0 0 (by decide)]; exact hw0
    have j1 : (J 1).toInt = ((H : Nat) : Int) := by rw [b0 1 (by decide)]; exact hw1
    refine g_iload_n (i := 3) rfl rfl ?_
    refine g_aload_n (i := 0) rfl rfl ?_
    refine g_getfield (v := .int (J 1)) rfl hr (by decide) rfl ?_
    refine g_icmp_ge 119 rfl rfl (fun _ => ?_) (fun hc => absurd hc (by rw [i_le, j1, ek]; omega))
    have key := hQ h o4 E (by rw [show (if b4 = true then bnT2 W 0 v a else []) = [] from by cases b4 <;> rfl, List.append_nil]; exact P)
    rw [show v = H by omega]
    exact key
  | succ f ih =>
    intro v o4 h L hv hv1 hl E P hQ
    have ek := ofN_toInt (n := v) (by omega)
    obtain ⟨J, fc, hr, b0, b6, h76, -⟩ := id P
    have j0 : (J 0).toInt = ((W : Nat) : Int) := by rw [b0 0 (by decide)]; exact hw0
    have j1 : (J 1).toInt = ((H : Nat) : Int) := by rw [b0 1 (by decide)]; exact hw1
    rw [show bnT2 W (f + 1) v a = bnT3 (W + 1) 0 a v ++ bnT2 W f (v + 1) a from rfl] at hl hQ
    have ea := ofN_toInt (n := a) (by omega)
    refine g_iload_n (i := 3) rfl rfl ?_
    refine g_aload_n (i := 0) rfl rfl ?_
    refine g_getfield (v := .int (J 1)) rfl hr (by decide) rfl ?_
    refine g_icmp_ge 119 rfl rfl (fun hc => absurd hc (by rw [i_le, j1, ek]; omega)) (fun _ => ?_)
    refine g_iconst (n := 0) rfl ?_
    refine g_istore (i := 4) (L1 := [some (.ref 60), some (.int kd), some (.int (Int32.ofNat a)), some (.int (Int32.ofNat v)), some (.int (Int32.ofInt 0))]) rfl (Nat.le_of_ble_eq_true rfl) rfl ?_
    have hl2 := hl
    rw [List.length_append] at hl2
    refine s_lm_bn3 hd g ha (show v ≤ 8 by omega) hk (W + 1) 0 h L (by omega) trivial (by omega) E P (fun h2 E2 P2 => ?_)
    refine g_iinc (i := 3) (L1 := [some (.ref 60), some (.int kd), some (.int (Int32.ofNat a)), some (.int ((Int32.ofNat v) + Int32.ofInt 1)), some (.int (Int32.ofNat (W + 1)))]) rfl rfl rfl ?_
    rw [ofN_add (by omega)]
    refine g_goto 56 rfl rfl ?_
    exact ih (v + 1) _ h2 (L ++ (if b4 = true then bnT3 (W + 1) 0 a v else [])) (by omega) (by omega) (by have := bif_len (b := b4) (L := bnT3 (W + 1) 0 a v); rw [List.length_append]; omega) E2 P2 (fun h' x0 e p => hQ h' x0 e (by rw [List.append_assoc, bif_app] at p; exact p))
theorem s_lm_bn1 {d : Nat} {h0 : sHp} {W H : Nat} {J0 : Nat → Int32} {kd : Int32} {Q : Option Value → sHp → Prop} (hd : 2 ≤ d) (g : gdM J0 W H) {b4 : Bool} (hk : b4 = true ↔ ¬ (kd &&& Int32.ofInt 4 = 0)) : ∀ (f v : Nat) (o3 : Option Value) (o4 : Option Value) (h : sHp) (L : List Nat), v + f = W + 1 → True → L.length + (bnT1 W H f v).length ≤ 644 → rsE h0 h → rcP h L J0 → (∀ (h' : sHp) (o3 : Option Value) (o4 : Option Value), rsE h0 h' → rcP h' (L ++ (if b4 = true then bnT1 W H f v else [])) J0 → sGo none 232 d 125 [some (.ref 60), some (.int kd), some (.int (Int32.ofNat (W + 1))), o3, o4] [] h' Q) → sGo none 232 d 46 [some (.ref 60), some (.int kd), some (.int (Int32.ofNat v)), o3, o4] [] h Q := by
  obtain ⟨gw, gh, w2, w8, h2, h8⟩ := id g
  have hw0 : (J0 0).toInt = ((W : Nat) : Int) := by rw [gw]; exact ofN_toInt (by omega)
  have hw1 : (J0 1).toInt = ((H : Nat) : Int) := by rw [gh]; exact ofN_toInt (by omega)
  intro f
  induction f with
  | zero =>
    intro v o3 o4 h L hv hv1 hl E P hQ
    have ek := ofN_toInt (n := v) (by omega)
    obtain ⟨J, fc, hr, b0, b6, h76, -⟩ := id P
    have j0 : (J 0).toInt = ((W : Nat) : Int) := by rw [b0 0 (by decide)]; exact hw0
    have j1 : (J 1).toInt = ((H : Nat) : Int) := by rw [b0 1 (by decide)]; exact hw1
    refine g_iload_n (i := 2) rfl rfl ?_
    refine g_aload_n (i := 0) rfl rfl ?_
    refine g_getfield (v := .int (J 0)) rfl hr (by decide) rfl ?_
    refine g_icmp_gt 125 rfl rfl (fun _ => ?_) (fun hc => absurd hc (by rw [i_lt, j0, ek]; omega))
    have key := hQ h o3 o4 E (by rw [show (if b4 = true then bnT1 W H 0 v else []) = [] from by cases b4 <;> rfl, List.append_nil]; exact P)
    rw [show v = W + 1 by omega]
    exact key
  | succ f ih =>
    intro v o3 o4 h L hv hv1 hl E P hQ
    have ek := ofN_toInt (n := v) (by omega)
    obtain ⟨J, fc, hr, b0, b6, h76, -⟩ := id P
    have j0 : (J 0).toInt = ((W : Nat) : Int) := by rw [b0 0 (by decide)]; exact hw0
    have j1 : (J 1).toInt = ((H : Nat) : Int) := by rw [b0 1 (by decide)]; exact hw1
    rw [show bnT1 W H (f + 1) v = bnT2 W (H - 1) 1 v ++ bnT1 W H f (v + 1) from rfl] at hl hQ
    refine g_iload_n (i := 2) rfl rfl ?_
    refine g_aload_n (i := 0) rfl rfl ?_
    refine g_getfield (v := .int (J 0)) rfl hr (by decide) rfl ?_
    refine g_icmp_gt 125 rfl rfl (fun hc => absurd hc (by rw [i_lt, j0, ek]; omega)) (fun _ => ?_)
    refine g_iconst (n := 1) rfl ?_
    refine g_istore_n (i := 3) (L1 := [some (.ref 60), some (.int kd), some (.int (Int32.ofNat v)), some (.int (Int32.ofInt 1)), o4]) rfl (Nat.le_of_ble_eq_true rfl) rfl ?_
    have hl2 := hl
    rw [List.length_append] at hl2
    refine s_lm_bn2 hd g (show v ≤ 8 by omega) hk (H - 1) 1 _ h L (by omega) (by omega) (by omega) E P (fun h2 o5 E2 P2 => ?_)
    refine g_iinc (i := 2) (L1 := [some (.ref 60), some (.int kd), some (.int ((Int32.ofNat v) + Int32.ofInt 1)), some (.int (Int32.ofNat H)), o5]) rfl rfl rfl ?_
    rw [ofN_add (by omega)]
    refine g_goto 46 rfl rfl ?_
    exact ih (v + 1) _ _ h2 (L ++ (if b4 = true then bnT2 W (H - 1) 1 v else [])) (by omega) (by omega) (by have := bif_len (b := b4) (L := bnT2 W (H - 1) 1 v); rw [List.length_append]; omega) E2 P2 (fun h' x0 x1 e p => hQ h' x0 x1 e (by rw [List.append_assoc, bif_app] at p; exact p))
theorem s_lm_fr2 {d : Nat} {h0 : sHp} {W H : Nat} {J0 : Nat → Int32} {kd : Int32} {Q : Option Value → sHp → Prop} (hd : 2 ≤ d) (g : gdM J0 W H) {a : Nat} {o4 : Option Value} (ha : a ≤ 8) {b32 : Bool} (hk : b32 = true ↔ ¬ (kd &&& (Int8.ofInt 32).toInt32 = 0)) : ∀ (f v : Nat) (h : sHp) (L : List Nat), v + f = H + 1 → 1 ≤ v → L.length + (frT2 W H f v a).length ≤ 644 → rsE h0 h → rcP h L J0 → (∀ (h' : sHp), rsE h0 h' → rcP h' (L ++ (if b32 = true then frT2 W H f v a else [])) J0 → sGo none 232 d 236 [some (.ref 60), some (.int kd), some (.int (Int32.ofNat a)), some (.int (Int32.ofNat (H + 1))), o4] [] h' Q) → sGo none 232 d 177 [some (.ref 60), some (.int kd), some (.int (Int32.ofNat a)), some (.int (Int32.ofNat v)), o4] [] h Q := by
  obtain ⟨gw, gh, w2, w8, h2, h8⟩ := id g
  have hw0 : (J0 0).toInt = ((W : Nat) : Int) := by rw [gw]; exact ofN_toInt (by omega)
  have hw1 : (J0 1).toInt = ((H : Nat) : Int) := by rw [gh]; exact ofN_toInt (by omega)
  intro f
  induction f with
  | zero =>
    intro v h L hv hv1 hl E P hQ
    have ek := ofN_toInt (n := v) (by omega)
    obtain ⟨J, fc, hr, b0, b6, h76, -⟩ := id P
    have j0 : (J 0).toInt = ((W : Nat) : Int) := by rw [b0 0 (by decide)]; exact hw0
    have j1 : (J 1).toInt = ((H : Nat) : Int) := by rw [b0 1 (by decide)]; exact hw1
    refine g_iload_n (i := 3) rfl rfl ?_
    refine g_aload_n (i := 0) rfl rfl ?_
    refine g_getfield (v := .int (J 1)) rfl hr (by decide) rfl ?_
    refine g_icmp_gt 236 rfl rfl (fun _ => ?_) (fun hc => absurd hc (by rw [i_lt, j1, ek]; omega))
    have key := hQ h E (by rw [show (if b32 = true then frT2 W H 0 v a else []) = [] from by cases b32 <;> rfl, List.append_nil]; exact P)
    rw [show v = H + 1 by omega]
    exact key
  | succ f ih =>
    intro v h L hv hv1 hl E P hQ
    have ek := ofN_toInt (n := v) (by omega)
    obtain ⟨J, fc, hr, b0, b6, h76, -⟩ := id P
    have j0 : (J 0).toInt = ((W : Nat) : Int) := by rw [b0 0 (by decide)]; exact hw0
    have j1 : (J 1).toInt = ((H : Nat) : Int) := by rw [b0 1 (by decide)]; exact hw1
    rw [show frT2 W H (f + 1) v a = (if a < W ∨ v < H then [5000 + 100 * a + 10 * v] else []) ++ frT2 W H f (v + 1) a from rfl] at hl hQ
    have ea := ofN_toInt (n := a) (by omega)
    have hl3 : L.length < 999 := by omega
    refine g_iload_n (i := 3) rfl rfl ?_
    refine g_aload_n (i := 0) rfl rfl ?_
    refine g_getfield (v := .int (J 1)) rfl hr (by decide) rfl ?_
    refine g_icmp_gt 236 rfl rfl (fun hc => absurd hc (by rw [i_lt, j1, ek]; omega)) (fun _ => ?_)
    refine g_aload_n (i := 0) rfl rfl ?_
    refine g_sipush (n := 5000) rfl ?_
    refine g_bipush (n := 100) rfl ?_
    refine g_iload_n (i := 2) rfl rfl ?_
    have k_1 : ((Int8.ofInt 100).toInt32).toInt = 100 := rfl
    refine g_imul rfl ?_
    have t_2 : (((Int8.ofInt 100).toInt32 * (Int32.ofNat a))).toInt = ((100 * a : Nat) : Int) := n_mul (X := 100) (Y := a) (show _ = ((100 : Nat) : Int) from k_1) (show _ = ((a : Nat) : Int) from ea) (by omega)
    have k_3 : ((Int16.ofInt 5000).toInt32).toInt = 5000 := rfl
    refine g_iadd rfl ?_
    have t_4 : ((Int16.ofInt 5000).toInt32 + ((Int8.ofInt 100).toInt32 * (Int32.ofNat a))).toInt = ((5000 + 100 * a : Nat) : Int) := by rw [i_add (by rw [k_3, t_2]; omega) (by rw [k_3, t_2]; omega), k_3, t_2]; omega
    refine g_bipush (n := 10) rfl ?_
    refine g_iload_n (i := 3) rfl rfl ?_
    have k_5 : ((Int8.ofInt 10).toInt32).toInt = 10 := rfl
    refine g_imul rfl ?_
    have t_6 : (((Int8.ofInt 10).toInt32 * (Int32.ofNat v))).toInt = ((10 * v : Nat) : Int) := n_mul (X := 10) (Y := v) (show _ = ((10 : Nat) : Int) from k_5) (show _ = ((v : Nat) : Int) from ek) (by omega)
    refine g_iadd rfl ?_
    have t_7 : (((Int16.ofInt 5000).toInt32 + ((Int8.ofInt 100).toInt32 * (Int32.ofNat a))) + ((Int8.ofInt 10).toInt32 * (Int32.ofNat v))).toInt = ((5000 + 100 * a + 10 * v : Nat) : Int) := by rw [i_add (by rw [t_4, t_6]; omega) (by rw [t_4, t_6]; omega), t_4, t_6]; omega
    refine g_iload_n (i := 1) rfl rfl ?_
    refine g_bipush (n := 32) rfl ?_
    refine g_iand rfl ?_
    by_cases hfl : b32 = true
    · skip
      refine g_if_eq 226 rfl rfl (fun hc => absurd hc (by exact hk.mp hfl)) (fun _ => ?_)
      refine g_iload_n (i := 2) rfl rfl ?_
      refine g_aload_n (i := 0) rfl rfl ?_
      refine g_getfield (v := .int (J 0)) rfl hr (by decide) rfl ?_
      refine g_icmp_lt 222 rfl rfl (fun c_8 => ?_) (fun c_8 => ?_)
      · skip
        rw [i_lt, ea, j0] at c_8
        refine g_iconst (n := 1) rfl ?_
        refine g_goto 227 rfl rfl ?_
        have hadd := s_lists1 (d := d) (C := 5000 + 100 * a + 10 * v) (x := (((Int16.ofInt 5000).toInt32 + ((Int8.ofInt 100).toInt32 * (Int32.ofNat a))) + ((Int8.ofInt 10).toInt32 * (Int32.ofNat v)))) true (by omega) P (by omega) (of_b (show ((((Int16.ofInt 5000).toInt32 + ((Int8.ofInt 100).toInt32 * (Int32.ofNat a))) + ((Int8.ofInt 10).toInt32 * (Int32.ofNat v)))).toInt = ((5000 + 100 * a + 10 * v : Nat) : Int) by rw [t_7] <;> omega) (by omega))
        refine g_virt2 (Qc := fun r h' => r = none ∧ rcP h' (L ++ [5000 + 100 * a + 10 * v]) J0 ∧ rsE h h') rfl (by decide) rfl hr rfl (Nat.le_of_ble_eq_true rfl) (hadd) (fun r h9 hq9 => ?_)
        obtain ⟨rfl, P1, E1⟩ := hq9
        refine g_iinc (i := 3) (L1 := [some (.ref 60), some (.int kd), some (.int (Int32.ofNat a)), some (.int ((Int32.ofNat v) + Int32.ofInt 1)), o4]) rfl rfl rfl ?_
        rw [ofN_add (by omega)]
        refine g_goto 177 rfl rfl ?_
        rw [if_pos hfl, if_pos (show a < W ∨ v < H by omega)] at hQ
        rw [if_pos (show a < W ∨ v < H by omega)] at hl
        exact ih (v + 1) h9 (L ++ [5000 + 100 * a + 10 * v]) (by omega) (by omega) (by rw [List.length_append]; rw [List.length_append] at hl; have e1 : [5000 + 100 * a + 10 * v].length = 1 := rfl; omega) (rsE_tr E E1) P1 (fun h' e p => hQ h' e (by rw [if_pos hfl, List.append_assoc] at p; exact p))
      · skip
        rw [i_lt, ea, j0] at c_8
        refine g_iload_n (i := 3) rfl rfl ?_
        refine g_aload_n (i := 0) rfl rfl ?_
        refine g_getfield (v := .int (J 1)) rfl hr (by decide) rfl ?_
        refine g_icmp_ge 226 rfl rfl (fun c_9 => ?_) (fun c_9 => ?_)
        · skip
          rw [i_le, ek, j1] at c_9
          refine g_iconst (n := 0) rfl ?_
          have hadd := s_lists1 (d := d) (C := 5000 + 100 * a + 10 * v) (x := (((Int16.ofInt 5000).toInt32 + ((Int8.ofInt 100).toInt32 * (Int32.ofNat a))) + ((Int8.ofInt 10).toInt32 * (Int32.ofNat v)))) false (by omega) P (by omega) (of_b (show ((((Int16.ofInt 5000).toInt32 + ((Int8.ofInt 100).toInt32 * (Int32.ofNat a))) + ((Int8.ofInt 10).toInt32 * (Int32.ofNat v)))).toInt = ((5000 + 100 * a + 10 * v : Nat) : Int) by rw [t_7] <;> omega) (by omega))
          refine g_virt2 (Qc := fun r h' => r = none ∧ rcP h' (L ++ []) J0 ∧ rsE h h') rfl (by decide) rfl hr rfl (Nat.le_of_ble_eq_true rfl) (hadd) (fun r h9 hq9 => ?_)
          obtain ⟨rfl, P1, E1⟩ := hq9
          refine g_iinc (i := 3) (L1 := [some (.ref 60), some (.int kd), some (.int (Int32.ofNat a)), some (.int ((Int32.ofNat v) + Int32.ofInt 1)), o4]) rfl rfl rfl ?_
          rw [ofN_add (by omega)]
          refine g_goto 177 rfl rfl ?_
          rw [List.append_nil] at P1
          rw [if_pos hfl, if_neg (show ¬ (a < W ∨ v < H) by omega), List.nil_append] at hQ
          rw [if_neg (show ¬ (a < W ∨ v < H) by omega), List.nil_append] at hl
          exact ih (v + 1) h9 L (by omega) (by omega) hl (rsE_tr E E1) P1 (fun h' e p => hQ h' e (by rw [if_pos hfl] at p; exact p))
        · skip
          rw [i_le, ek, j1] at c_9
          refine g_iconst (n := 1) rfl ?_
          refine g_goto 227 rfl rfl ?_
          have hadd := s_lists1 (d := d) (C := 5000 + 100 * a + 10 * v) (x := (((Int16.ofInt 5000).toInt32 + ((Int8.ofInt 100).toInt32 * (Int32.ofNat a))) + ((Int8.ofInt 10).toInt32 * (Int32.ofNat v)))) true (by omega) P (by omega) (of_b (show ((((Int16.ofInt 5000).toInt32 + ((Int8.ofInt 100).toInt32 * (Int32.ofNat a))) + ((Int8.ofInt 10).toInt32 * (Int32.ofNat v)))).toInt = ((5000 + 100 * a + 10 * v : Nat) : Int) by rw [t_7] <;> omega) (by omega))
          refine g_virt2 (Qc := fun r h' => r = none ∧ rcP h' (L ++ [5000 + 100 * a + 10 * v]) J0 ∧ rsE h h') rfl (by decide) rfl hr rfl (Nat.le_of_ble_eq_true rfl) (hadd) (fun r h9 hq9 => ?_)
          obtain ⟨rfl, P1, E1⟩ := hq9
          refine g_iinc (i := 3) (L1 := [some (.ref 60), some (.int kd), some (.int (Int32.ofNat a)), some (.int ((Int32.ofNat v) + Int32.ofInt 1)), o4]) rfl rfl rfl ?_
          rw [ofN_add (by omega)]
          refine g_goto 177 rfl rfl ?_
          rw [if_pos hfl, if_pos (show a < W ∨ v < H by omega)] at hQ
          rw [if_pos (show a < W ∨ v < H by omega)] at hl
          exact ih (v + 1) h9 (L ++ [5000 + 100 * a + 10 * v]) (by omega) (by omega) (by rw [List.length_append]; rw [List.length_append] at hl; have e1 : [5000 + 100 * a + 10 * v].length = 1 := rfl; omega) (rsE_tr E E1) P1 (fun h' e p => hQ h' e (by rw [if_pos hfl, List.append_assoc] at p; exact p))
    · skip
      refine g_if_eq 226 rfl rfl (fun _ => ?_) (fun hc => absurd hc (by exact fun z => hfl (hk.mpr z)))
      refine g_iconst (n := 0) rfl ?_
      have hadd := s_lists1 (d := d) (C := 5000 + 100 * a + 10 * v) (x := (((Int16.ofInt 5000).toInt32 + ((Int8.ofInt 100).toInt32 * (Int32.ofNat a))) + ((Int8.ofInt 10).toInt32 * (Int32.ofNat v)))) false (by omega) P (by omega) (of_b (show ((((Int16.ofInt 5000).toInt32 + ((Int8.ofInt 100).toInt32 * (Int32.ofNat a))) + ((Int8.ofInt 10).toInt32 * (Int32.ofNat v)))).toInt = ((5000 + 100 * a + 10 * v : Nat) : Int) by rw [t_7] <;> omega) (by omega))
      refine g_virt2 (Qc := fun r h' => r = none ∧ rcP h' (L ++ []) J0 ∧ rsE h h') rfl (by decide) rfl hr rfl (Nat.le_of_ble_eq_true rfl) (hadd) (fun r h9 hq9 => ?_)
      obtain ⟨rfl, P1, E1⟩ := hq9
      refine g_iinc (i := 3) (L1 := [some (.ref 60), some (.int kd), some (.int (Int32.ofNat a)), some (.int ((Int32.ofNat v) + Int32.ofInt 1)), o4]) rfl rfl rfl ?_
      rw [ofN_add (by omega)]
      refine g_goto 177 rfl rfl ?_
      rw [List.append_nil] at P1
      exact ih (v + 1) h9 L (by omega) (by omega) (by rw [List.length_append] at hl; omega) (rsE_tr E E1) P1 (fun h' e p => hQ h' e (by rw [if_neg hfl] at p ⊢; exact p))
theorem s_lm_fr1 {d : Nat} {h0 : sHp} {W H : Nat} {J0 : Nat → Int32} {kd : Int32} {Q : Option Value → sHp → Prop} (hd : 2 ≤ d) (g : gdM J0 W H) {o4 : Option Value} {b32 : Bool} (hk : b32 = true ↔ ¬ (kd &&& (Int8.ofInt 32).toInt32 = 0)) : ∀ (f v : Nat) (o3 : Option Value) (h : sHp) (L : List Nat), v + f = W + 1 → 1 ≤ v → L.length + (frT1 W H f v).length ≤ 644 → rsE h0 h → rcP h L J0 → (∀ (h' : sHp) (o3 : Option Value), rsE h0 h' → rcP h' (L ++ (if b32 = true then frT1 W H f v else [])) J0 → sGo none 232 d 242 [some (.ref 60), some (.int kd), some (.int (Int32.ofNat (W + 1))), o3, o4] [] h' Q) → sGo none 232 d 167 [some (.ref 60), some (.int kd), some (.int (Int32.ofNat v)), o3, o4] [] h Q := by
  obtain ⟨gw, gh, w2, w8, h2, h8⟩ := id g
  have hw0 : (J0 0).toInt = ((W : Nat) : Int) := by rw [gw]; exact ofN_toInt (by omega)
  have hw1 : (J0 1).toInt = ((H : Nat) : Int) := by rw [gh]; exact ofN_toInt (by omega)
  intro f
  induction f with
  | zero =>
    intro v o3 h L hv hv1 hl E P hQ
    have ek := ofN_toInt (n := v) (by omega)
    obtain ⟨J, fc, hr, b0, b6, h76, -⟩ := id P
    have j0 : (J 0).toInt = ((W : Nat) : Int) := by rw [b0 0 (by decide)]; exact hw0
    have j1 : (J 1).toInt = ((H : Nat) : Int) := by rw [b0 1 (by decide)]; exact hw1
    refine g_iload_n (i := 2) rfl rfl ?_
    refine g_aload_n (i := 0) rfl rfl ?_
    refine g_getfield (v := .int (J 0)) rfl hr (by decide) rfl ?_
    refine g_icmp_gt 242 rfl rfl (fun _ => ?_) (fun hc => absurd hc (by rw [i_lt, j0, ek]; omega))
    have key := hQ h o3 E (by rw [show (if b32 = true then frT1 W H 0 v else []) = [] from by cases b32 <;> rfl, List.append_nil]; exact P)
    rw [show v = W + 1 by omega]
    exact key
  | succ f ih =>
    intro v o3 h L hv hv1 hl E P hQ
    have ek := ofN_toInt (n := v) (by omega)
    obtain ⟨J, fc, hr, b0, b6, h76, -⟩ := id P
    have j0 : (J 0).toInt = ((W : Nat) : Int) := by rw [b0 0 (by decide)]; exact hw0
    have j1 : (J 1).toInt = ((H : Nat) : Int) := by rw [b0 1 (by decide)]; exact hw1
    rw [show frT1 W H (f + 1) v = frT2 W H H 1 v ++ frT1 W H f (v + 1) from rfl] at hl hQ
    refine g_iload_n (i := 2) rfl rfl ?_
    refine g_aload_n (i := 0) rfl rfl ?_
    refine g_getfield (v := .int (J 0)) rfl hr (by decide) rfl ?_
    refine g_icmp_gt 242 rfl rfl (fun hc => absurd hc (by rw [i_lt, j0, ek]; omega)) (fun _ => ?_)
    refine g_iconst (n := 1) rfl ?_
    refine g_istore_n (i := 3) (L1 := [some (.ref 60), some (.int kd), some (.int (Int32.ofNat v)), some (.int (Int32.ofInt 1)), o4]) rfl (Nat.le_of_ble_eq_true rfl) rfl ?_
    have hl2 := hl
    rw [List.length_append] at hl2
    refine s_lm_fr2 hd g (show v ≤ 8 by omega) hk H 1 h L (by omega) (by omega) (by omega) E P (fun h2 E2 P2 => ?_)
    refine g_iinc (i := 2) (L1 := [some (.ref 60), some (.int kd), some (.int ((Int32.ofNat v) + Int32.ofInt 1)), some (.int (Int32.ofNat (H + 1))), o4]) rfl rfl rfl ?_
    rw [ofN_add (by omega)]
    refine g_goto 167 rfl rfl ?_
    exact ih (v + 1) _ h2 (L ++ (if b32 = true then frT2 W H H 1 v else [])) (by omega) (by omega) (by have := bif_len (b := b32) (L := frT2 W H H 1 v); rw [List.length_append]; omega) E2 P2 (fun h' x0 e p => hQ h' x0 e (by rw [List.append_assoc, bif_app] at p; exact p))
theorem s_lists12 {d : Nat} {h : sHp} {W H : Nat} {J fc : Nat → Int32} {kd : Int32} {b4 b32 : Bool} (hd : 3 ≤ d) (g : gdM J W H) (hr : h[60]? = some (mO J)) (h76 : h[76]? = some (.inl (0, 1000, .inl fc))) (k2 : ¬ (kd &&& Int32.ofInt 2 = 0)) (k16 : ¬ (kd &&& (Int8.ofInt 16).toInt32 = 0)) (k4 : b4 = true ↔ ¬ (kd &&& Int32.ofInt 4 = 0)) (k32 : b32 = true ↔ ¬ (kd &&& (Int8.ofInt 32).toInt32 = 0)) : sDo d 232 [.ref 60, .int kd] h (fun r h' => r = none ∧ rcP h' (lsT W H b4 b32) J ∧ rsE h h') := by
  have g' := g
  obtain ⟨-, -, w2, w8, h2, h8⟩ := g'
  have hls := ls_le w8 h8
  have P0 : rcP (h.set 60 (mO (upd J 31 (Int32.ofInt 0)))) [] J := ⟨_, fc, s_set_eq hr, fun j hj => u_ne hj, u_at, by rw [s_set_ne (by decide)]; exact h76, fun i c hi => by cases hi⟩
  have E0 : rsE h (h.set 60 (mO (upd J 31 (Int32.ofInt 0)))) := ⟨List.length_set, fun q h1 _ => s_set_ne (Ne.symm h1)⟩
  have l4 := bif_len (b := b4) (L := bnT1 W H (W + 1) 0)
  unfold lsT
  refine sDo_of1 (nL := 5) (L := [some (.ref 60), some (.int kd), none, none, none]) (by omega) rfl rfl ?_
  refine g_aload_n (i := 0) rfl rfl ?_
  refine g_iconst (n := 0) rfl ?_
  refine g_putfield (h1 := h.set 60 (mO (upd J 31 (Int32.ofInt 0)))) rfl hr (by decide) (Nat.le_of_ble_eq_true rfl) rfl rfl ?_
  refine g_iconst (n := 1) rfl ?_
  refine g_istore_n (i := 2) (L1 := [some (.ref 60), some (.int kd), some (.int (Int32.ofInt 1)), none, none]) rfl (Nat.le_of_ble_eq_true rfl) rfl ?_
  refine s_lm_str (d := d - 1) (by omega) g k2 (W - 1) 1 _ [] (by omega) (by omega) (by show 0 + _ ≤ 644; omega) E0 P0 (fun h2 E2 P2 => ?_)
  rw [List.nil_append] at P2
  refine g_iconst (n := 0) rfl ?_
  refine g_istore_n (i := 2) (L1 := [some (.ref 60), some (.int kd), some (.int (Int32.ofInt 0)), none, none]) rfl (Nat.le_of_ble_eq_true rfl) rfl ?_
  refine s_lm_bn1 (d := d - 1) (by omega) g k4 (W + 1) 0 _ _ _ (strT (W - 1) 1) (by omega) trivial (by omega) E2 P2 (fun h3 o3 o4 E3 P3 => ?_)
  refine g_iconst (n := 1) rfl ?_
  refine g_istore_n (i := 2) (L1 := [some (.ref 60), some (.int kd), some (.int (Int32.ofInt 1)), o3, o4]) rfl (Nat.le_of_ble_eq_true rfl) rfl ?_
  refine s_lm_al (d := d - 1) (by omega) g k16 (H - 1) 1 _ _ (by omega) (by omega) (by rw [List.length_append]; omega) E3 P3 (fun h4 E4 P4 => ?_)
  refine g_iconst (n := 1) rfl ?_
  refine g_istore_n (i := 2) (L1 := [some (.ref 60), some (.int kd), some (.int (Int32.ofInt 1)), o3, o4]) rfl (Nat.le_of_ble_eq_true rfl) rfl ?_
  refine s_lm_fr1 (d := d - 1) (by omega) g k32 W 1 _ _ _ (by omega) (by omega) (by simp only [List.length_append]; omega) E4 P4 (fun h5 o3 E5 P5 => ?_)
  refine g_return rfl rfl ?_
  exact ⟨rfl, by simpa only [List.append_assoc] using P5, E5⟩
