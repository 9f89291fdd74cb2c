/-! ===== the cuts, one after another ===== -/
def strT : Nat → Nat → List Nat
  | 0, _ => []
  | f + 1, a => (1000 + 100 * a) :: strT f (a + 1)
def alT : Nat → Nat → List Nat
  | 0, _ => []
  | f + 1, a => (4000 + 100 * a) :: alT f (a + 1)
def bnT3 : Nat → Nat → Nat → Nat → List Nat
  | 0, _, _, _ => []
  | f + 1, e, a, b => (2000 + 100 * a + 10 * b + e) :: bnT3 f (e + 1) a b
def bnT2 (W : Nat) : Nat → Nat → Nat → List Nat
  | 0, _, _ => []
  | f + 1, b, a => bnT3 (W + 1) 0 a b ++ bnT2 W f (b + 1) a
def bnT1 (W H : Nat) : Nat → Nat → List Nat
  | 0, _ => []
  | f + 1, a => bnT2 W (H - 1) 1 a ++ bnT1 W H f (a + 1)
def frT2 (W H : Nat) : Nat → Nat → Nat → List Nat
  | 0, _, _ => []
  | f + 1, b, a => (if a < W ∨ b < H then [5000 + 100 * a + 10 * b] else []) ++ frT2 W H f (b + 1) a
def frT1 (W H : Nat) : Nat → Nat → List Nat
  | 0, _ => []
  | f + 1, a => frT2 W H H 1 a ++ frT1 W H f (a + 1)
def lsT (W H : Nat) (b4 b32 : Bool) : List Nat := strT (W - 1) 1 ++ ((if b4 = true then bnT1 W H (W + 1) 0 else []) ++ (alT (H - 1) 1 ++ (if b32 = true then frT1 W H W 1 else [])))
theorem ls_ck : ((List.range 9).all fun W => (List.range 9).all fun H => Nat.ble (lsT W H true true).length 644) = true := by decide +kernel
theorem ls_le {W H : Nat} (w8 : W ≤ 8) (h8 : H ≤ 8) : (strT (W - 1) 1).length + ((bnT1 W H (W + 1) 0).length + ((alT (H - 1) 1).length + (frT1 W H W 1).length)) ≤ 644 := by
  have h := Nat.le_of_ble_eq_true (rg_all (rg_all ls_ck W (by omega)) H (by omega))
  unfold lsT at h
  rw [if_pos rfl, if_pos rfl, List.length_append, List.length_append, List.length_append] at h
  exact h
theorem ofB_toInt {n : Nat} (h : n < 100000) : (Int32.ofNat n).toInt = n := Int32.toInt_ofNat_of_lt (by omega)
theorem of_b {x : Int32} {X : Nat} (h : x.toInt = X) (hX : X < 100000) : x = Int32.ofNat X := Int32.toInt_inj.mp (by rw [h, ofB_toInt hX])
theorem fs_str {W n a : Nat} (ha : a < 10) : fsS W n (1000 + 100 * a) = colS W n a := by rw [fsS_1 (by omega), show (1000 + 100 * a) / 100 % 10 = a by omega]
theorem fs_al {W n a : Nat} (ha : a < 10) : fsS W n (4000 + 100 * a) = rowS W n a := by rw [fsS_4 (by omega), show (4000 + 100 * a) / 100 % 10 = a by omega]
theorem fs_bn {W n a b e : Nat} (ha : a < 10) (hb : b < 10) (he : e < 10) : fsS W n (2000 + 100 * a + 10 * b + e) = benS W n a b e := by rw [fsS_2 (by omega), show (2000 + 100 * a + 10 * b + e) / 100 % 10 = a by omega, show (2000 + 100 * a + 10 * b + e) / 10 % 10 = b by omega, show (2000 + 100 * a + 10 * b + e) % 10 = e by omega]
theorem fs_fr {W n a b : Nat} (ha : a < 10) (hb : b < 10) : fsS W n (5000 + 100 * a + 10 * b) = corS W n a b := by rw [fsS_5 (by omega), show (5000 + 100 * a + 10 * b) / 100 % 10 = a by omega, show (5000 + 100 * a + 10 * b) / 10 % 10 = b by omega]
/-- the search object -/
def sO (B : Nat → Int32) (S1 S2 : Int64) : va_E := .inr (8, [.int (B 0), .int (B 1), .long S1, .long S2, .int (B 4), .int (B 5), .int (B 6), .ref 39, .ref 40, .ref 41])
def lcP (h : sHp) (W n : Nat) (L : List Nat) (B0 : Nat → Int32) (S1 S2 : Int64) : Prop := ∃ (B fc : Nat → Int32) (ff : Nat → Int64), h[38]? = some (sO B S1 S2) ∧ (∀ j, j ≠ 6 → B j = B0 j) ∧ B 6 = Int32.ofNat L.length ∧ h[39]? = some (.inl (0, 644, .inl fc)) ∧ h[40]? = some (.inl (1, 644, .inr (.inl ff))) ∧ (∀ i c, L[i]? = some c → fc i = Int32.ofNat c) ∧ ∀ i c, L[i]? = some c → ff i = fsS W n c
def scE (h h' : sHp) : Prop := h'.length = h.length ∧ ∀ q, (q < 38 ∨ 40 < q) → h'[q]? = h[q]?
theorem scE_rfl {h : sHp} : scE h h := ⟨rfl, fun _ _ => rfl⟩
theorem scE_tr {a b c : sHp} (x : scE a b) (y : scE b c) : scE a c := ⟨y.1.trans x.1, fun q hq => (y.2 q hq).trans (x.2 q hq)⟩
theorem scE_set {h h1 : sHp} {q : Nat} {x : va_E} (a : scE h h1) (hq : 38 ≤ q ∧ q ≤ 40) : scE h (h1.set q x) := ⟨by rw [List.length_set]; exact a.1, fun p hp => by rw [s_set_ne (by omega)]; exact a.2 p hp⟩
theorem scE_FC {h h' : sHp} {c : CF} (E : scE h h') (F : FC h 5 c) : FC h' 5 c := by
  obtain ⟨a0, a1, a2, ⟨f, a3, a4⟩, a5, a6, a7⟩ := F
  have e := E.2
  exact ⟨(e _ (by omega)).trans a0, (e _ (by omega)).trans a1, (e _ (by omega)).trans a2, ⟨f, (e _ (by omega)).trans a3, a4⟩, fun k hk => (e _ (by omega)).trans (a5 k hk), (e _ (by omega)).trans a6, (e _ (by omega)).trans a7⟩
theorem app_at {α : Type} {L : List α} {c d : α} {i : Nat} (h : (L ++ [c])[i]? = some d) : (i < L.length ∧ L[i]? = some d) ∨ (i = L.length ∧ d = c) := app1_at h
theorem s_addCut {d : Nat} {h : sHp} {W n C : Nat} {L : List Nat} {B0 : Nat → Int32} {S1 S2 : Int64} {x : Int32} {l : Int64} (hd : 1 ≤ d) (P : lcP h W n L B0 S1 S2) (hl : L.length < 644) (hx : x = Int32.ofNat C) (hf : l = fsS W n C) : sDo d 91 [.ref 38, .int x, .long l] h (fun r h' => r = none ∧ lcP h' W n (L ++ [C]) B0 S1 S2 ∧ scE h h') := by
  obtain ⟨B, fc, ff, hS, b0, b6, h39, h40, p1, p2⟩ := P
  have e6 : (B 6).toInt = ((L.length : Nat) : Int) := by rw [b6]; exact ofN_toInt (by omega)
  have e644 : (Int16.ofInt 644).toInt32.toInt = 644 := rfl
  refine sDo_of1 (nL := 4) (L := [some (.ref 38), some (.int x), some (.long l), none]) hd rfl rfl ?_
  refine g_aload_n (i := 0) rfl rfl ?_
  refine g_getfield (v := .int (B 6)) rfl hS (by decide) rfl ?_
  refine g_sipush (n := 644) rfl ?_
  refine g_icmp_ge 40 rfl rfl (fun hc => absurd hc (by rw [i_le, e6, e644]; omega)) (fun _ => ?_)
  refine g_aload_n (i := 0) rfl rfl ?_
  refine g_getfield (v := .ref 39) rfl hS (by decide) rfl ?_
  refine g_aload_n (i := 0) rfl rfl ?_
  refine g_getfield (v := .int (B 6)) rfl hS (by decide) rfl ?_
  refine g_iload_n (i := 1) rfl rfl ?_
  refine g_iastore (n := 644) (f := fc) (h1 := h.set 39 (.inl (0, 644, .inl (upd fc L.length x)))) rfl h39 (i_in (by omega) (by omega)) (by rw [i_nat e6]) ?_
  have hS1 : (h.set 39 (.inl (0, 644, .inl (upd fc L.length x))))[38]? = some (sO B S1 S2) := by rw [s_set_ne (by decide)]; exact hS
  refine g_aload_n (i := 0) rfl rfl ?_
  refine g_getfield (v := .ref 40) rfl hS1 (by decide) rfl ?_
  refine g_aload_n (i := 0) rfl rfl ?_
  refine g_getfield (v := .int (B 6)) rfl hS1 (by decide) rfl ?_
  refine g_lload_n (i := 2) rfl rfl ?_
  refine g_lastore (n := 644) (f := ff) (h1 := (h.set 39 (.inl (0, 644, .inl (upd fc L.length x)))).set 40 (.inl (1, 644, .inr (.inl (vp_updL ff L.length l))))) rfl (by rw [s_set_ne (by decide)]; exact h40) (i_in (by omega) (by omega)) (by rw [i_nat e6]) ?_
  have hS2 : ((h.set 39 (.inl (0, 644, .inl (upd fc L.length x)))).set 40 (.inl (1, 644, .inr (.inl (vp_updL ff L.length l)))))[38]? = some (sO B S1 S2) := by rw [s_set_ne (by decide)]; exact hS1
  refine g_aload_n (i := 0) rfl rfl ?_
  refine g_dup rfl rfl ?_
  refine g_getfield (v := .int (B 6)) rfl hS2 (by decide) rfl ?_
  refine g_iconst (n := 1) rfl ?_
  have k_1 : (Int32.ofInt 1).toInt = 1 := rfl
  refine g_iadd rfl ?_
  have t_2 : ((B 6) + (Int32.ofInt 1)).toInt = ((L.length + 1 : Nat) : Int) := by rw [i_add (by rw [e6, k_1]; omega) (by rw [e6, k_1]; omega), e6, k_1]; omega
  refine g_putfield (h1 := List.set ((h.set 39 (.inl (0, 644, .inl (upd fc L.length x)))).set 40 (.inl (1, 644, .inr (.inl (vp_updL ff L.length l))))) 38 (sO (upd B 6 (B 6 + Int32.ofInt 1)) S1 S2)) rfl hS2 (by decide) (Nat.le_of_ble_eq_true rfl) rfl rfl ?_
  refine g_return rfl rfl ?_
  refine ⟨rfl, ⟨upd B 6 (B 6 + Int32.ofInt 1), upd fc L.length x, vp_updL ff L.length l, s_set_eq hS2, fun j hj => (u_ne hj).trans (b0 j hj), ?_, ?_, ?_, fun i c hi => ?_, fun i c hi => ?_⟩, scE_set (scE_set (scE_set scE_rfl (by decide)) (by decide)) (by decide)⟩
  · rw [u_at, b6, ofN_add (by omega), List.length_append]; rfl
  · rw [s_set_ne (by decide), s_set_ne (by decide)]; exact s_set_eq h39
  · rw [s_set_ne (by decide)]; exact s_set_eq (by rw [s_set_ne (by decide)]; exact h40)
  · rcases app_at hi with ⟨h1, h2⟩ | ⟨rfl, rfl⟩
    · rw [u_ne (by omega)]; exact p1 i c h2
    · rw [u_at]; exact hx
  · rcases app_at hi with ⟨h1, h2⟩ | ⟨rfl, rfl⟩
    · exact (if_neg (show ¬ i = L.length by omega)).trans (p2 i c h2)
    · exact (if_pos rfl).trans hf
theorem s_lc_str {d : Nat} {h0 : sHp} {c : CF} {W H : Nat} {B0 : Nat → Int32} {S1 S2 : Int64} {Q : Option Value → sHp → Prop} (hd : 4 ≤ d) (g : gdF c W H) (F0 : FC h0 5 c) {x2 x3 : Int32} : ∀ (f v : Nat) (h : sHp) (L : List Nat), v + f = W → 1 ≤ v → L.length + (strT f v).length ≤ 644 → scE h0 h → lcP h W (W * H) L B0 S1 S2 → (∀ (h' : sHp), scE h0 h' → lcP h' W (W * H) (L ++ strT f v) B0 S1 S2 → sGo none 92 d 42 [some (.ref 38), some (.ref 5), some (.int x2), some (.int x3), some (.int (Int32.ofNat W))] [] h' Q) → sGo none 92 d 8 [some (.ref 38), some (.ref 5), some (.int x2), some (.int x3), some (.int (Int32.ofNat v))] [] h Q := by
  have gd := g
  obtain ⟨gw, gh, w2, w8, h2, h8, -⟩ := gd
  have hw0 : (c.1 0).toInt = ((W : Nat) : Int) := by rw [gw]; exact ofN_toInt (by omega)
  have hw1 : (c.1 1).toInt = ((H : Nat) : Int) := by rw [gh]; exact ofN_toInt (by omega)
  have hn := gdF_n g
  intro f
  induction f with
  | zero =>
    intro v h L hv hv1 hl E P hQ
    have F := scE_FC E F0
    have ek := ofN_toInt (n := v) (by omega)
    refine g_iload (i := 4) rfl rfl ?_
    refine g_aload_n (i := 1) rfl rfl ?_
    refine g_getfield (v := .int (c.1 0)) rfl F.1 (by decide) rfl ?_
    refine g_icmp_ge 42 rfl rfl (fun _ => ?_) (fun hc => absurd hc (by rw [i_le, hw0, ek]; omega))
    have key := hQ h E (by rw [show strT 0 v = [] from rfl, List.append_nil]; exact P)
    rw [show v = W by omega]
    exact key
  | succ f ih =>
    intro v h L hv hv1 hl E P hQ
    have F := scE_FC E F0
    have ek := ofN_toInt (n := v) (by omega)
    obtain ⟨B, fc, ff, hS, -⟩ := id P
    rw [show strT (f + 1) v = (1000 + 100 * v) :: strT f (v + 1) from rfl] at hl hQ
    have hl5 := hl
    rw [List.length_cons] at hl5
    refine g_iload (i := 4) rfl rfl ?_
    refine g_aload_n (i := 1) rfl rfl ?_
    refine g_getfield (v := .int (c.1 0)) rfl F.1 (by decide) rfl ?_
    refine g_icmp_ge 42 rfl rfl (fun hc => absurd hc (by rw [i_le, hw0, ek]; omega)) (fun _ => ?_)
    refine g_aload_n (i := 0) rfl rfl ?_
    refine g_sipush (n := 1000) rfl ?_
    refine g_bipush (n := 100) rfl ?_
    refine g_iload (i := 4) rfl rfl ?_
    have k_1 : ((Int8.ofInt 100).toInt32).toInt = 100 := rfl
    refine g_imul rfl ?_
    have t_2 : (((Int8.ofInt 100).toInt32 * (Int32.ofNat v))).toInt = ((100 * v : Nat) : Int) := n_mul (X := 100) (Y := v) (show _ = ((100 : Nat) : Int) from k_1) (show _ = ((v : Nat) : Int) from ek) (by omega)
    have k_3 : ((Int16.ofInt 1000).toInt32).toInt = 1000 := rfl
    refine g_iadd rfl ?_
    have t_4 : ((Int16.ofInt 1000).toInt32 + ((Int8.ofInt 100).toInt32 * (Int32.ofNat v))).toInt = ((1000 + 100 * v : Nat) : Int) := by rw [i_add (by rw [k_3, t_2]; omega) (by rw [k_3, t_2]; omega), k_3, t_2]; omega
    refine g_aload_n (i := 1) rfl rfl ?_
    refine g_iload (i := 4) rfl rfl ?_
    refine g_virt1 (Qc := fun r h' => h' = h ∧ r = some (.long (colS W (W * H) (v)))) rfl (by decide) rfl F.1 rfl (Nat.le_of_ble_eq_true rfl) (s_columns (M := v) (by omega) F g ek) (fun r h hq9 => ?_)
    obtain ⟨rfl, rfl⟩ := hq9
    have hadd := s_addCut (d := d) (C := 1000 + 100 * v) (x := ((Int16.ofInt 1000).toInt32 + ((Int8.ofInt 100).toInt32 * (Int32.ofNat v)))) (l := (colS W (W * H) (v))) (by omega) P (by omega) (of_b (show (((Int16.ofInt 1000).toInt32 + ((Int8.ofInt 100).toInt32 * (Int32.ofNat v)))).toInt = ((1000 + 100 * v : Nat) : Int) by rw [t_4] <;> omega) (by omega)) (fs_str (by omega)).symm
    refine g_virt2 (Qc := fun r h' => r = none ∧ lcP h' W (W * H) (L ++ [1000 + 100 * v]) B0 S1 S2 ∧ scE h h') rfl (by decide) rfl hS rfl (Nat.le_of_ble_eq_true rfl) (hadd) (fun r h9 hq9 => ?_)
    obtain ⟨rfl, P1, E1⟩ := hq9
    refine g_iinc (i := 4) (L1 := [some (.ref 38), some (.ref 5), some (.int x2), some (.int x3), some (.int ((Int32.ofNat v) + Int32.ofInt 1))]) rfl rfl rfl ?_
    rw [ofN_add (by omega)]
    refine g_goto 8 rfl rfl ?_
    exact ih (v + 1) h9 (L ++ [1000 + 100 * v]) (by omega) (by omega) (by rw [List.length_append]; rw [List.length_cons] at hl; show L.length + 1 + _ ≤ 644; omega) (scE_tr E E1) P1 (fun h' e p => hQ h' e (by rw [List.append_assoc] at p; exact p))
theorem s_lc_al {d : Nat} {h0 : sHp} {c : CF} {W H : Nat} {B0 : Nat → Int32} {S1 S2 : Int64} {Q : Option Value → sHp → Prop} (hd : 4 ≤ d) (g : gdF c W H) (F0 : FC h0 5 c) {x2 x3 : Int32} : ∀ (f v : Nat) (h : sHp) (L : List Nat), v + f = H → 1 ≤ v → L.length + (alT f v).length ≤ 644 → scE h0 h → lcP h W (W * H) L B0 S1 S2 → (∀ (h' : sHp), scE h0 h' → lcP h' W (W * H) (L ++ alT f v) B0 S1 S2 → sGo none 92 d 88 [some (.ref 38), some (.ref 5), some (.int x2), some (.int x3), some (.int (Int32.ofNat H))] [] h' Q) → sGo none 92 d 54 [some (.ref 38), some (.ref 5), some (.int x2), some (.int x3), some (.int (Int32.ofNat v))] [] h Q := by
  have gd := g
  obtain ⟨gw, gh, w2, w8, h2, h8, -⟩ := gd
  have hw0 : (c.1 0).toInt = ((W : Nat) : Int) := by rw [gw]; exact ofN_toInt (by omega)
  have hw1 : (c.1 1).toInt = ((H : Nat) : Int) := by rw [gh]; exact ofN_toInt (by omega)
  have hn := gdF_n g
  intro f
  induction f with
  | zero =>
    intro v h L hv hv1 hl E P hQ
    have F := scE_FC E F0
    have ek := ofN_toInt (n := v) (by omega)
    refine g_iload (i := 4) rfl rfl ?_
    refine g_aload_n (i := 1) rfl rfl ?_
    refine g_getfield (v := .int (c.1 1)) rfl F.1 (by decide) rfl ?_
    refine g_icmp_ge 88 rfl rfl (fun _ => ?_) (fun hc => absurd hc (by rw [i_le, hw1, ek]; omega))
    have key := hQ h E (by rw [show alT 0 v = [] from rfl, List.append_nil]; exact P)
    rw [show v = H by omega]
    exact key
  | succ f ih =>
    intro v h L hv hv1 hl E P hQ
    have F := scE_FC E F0
    have ek := ofN_toInt (n := v) (by omega)
    obtain ⟨B, fc, ff, hS, -⟩ := id P
    rw [show alT (f + 1) v = (4000 + 100 * v) :: alT f (v + 1) from rfl] at hl hQ
    have hl5 := hl
    rw [List.length_cons] at hl5
    refine g_iload (i := 4) rfl rfl ?_
    refine g_aload_n (i := 1) rfl rfl ?_
    refine g_getfield (v := .int (c.1 1)) rfl F.1 (by decide) rfl ?_
    refine g_icmp_ge 88 rfl rfl (fun hc => absurd hc (by rw [i_le, hw1, ek]; omega)) (fun _ => ?_)
    refine g_aload_n (i := 0) rfl rfl ?_
    refine g_sipush (n := 4000) rfl ?_
    refine g_bipush (n := 100) rfl ?_
    refine g_iload (i := 4) rfl rfl ?_
    have k_1 : ((Int8.ofInt 100).toInt32).toInt = 100 := rfl
    refine g_imul rfl ?_
    have t_2 : (((Int8.ofInt 100).toInt32 * (Int32.ofNat v))).toInt = ((100 * v : Nat) : Int) := n_mul (X := 100) (Y := v) (show _ = ((100 : Nat) : Int) from k_1) (show _ = ((v : Nat) : Int) from ek) (by omega)
    have k_3 : ((Int16.ofInt 4000).toInt32).toInt = 4000 := rfl
    refine g_iadd rfl ?_
    have t_4 : ((Int16.ofInt 4000).toInt32 + ((Int8.ofInt 100).toInt32 * (Int32.ofNat v))).toInt = ((4000 + 100 * v : Nat) : Int) := by rw [i_add (by rw [k_3, t_2]; omega) (by rw [k_3, t_2]; omega), k_3, t_2]; omega
    refine g_aload_n (i := 1) rfl rfl ?_
    refine g_iload (i := 4) rfl rfl ?_
    refine g_virt1 (Qc := fun r h' => h' = h ∧ r = some (.long (rowS W (W * H) (v)))) rfl (by decide) rfl F.1 rfl (Nat.le_of_ble_eq_true rfl) (s_rowsBelow (M := v) (by omega) F g ek (by omega)) (fun r h hq9 => ?_)
    obtain ⟨rfl, rfl⟩ := hq9
    have hadd := s_addCut (d := d) (C := 4000 + 100 * v) (x := ((Int16.ofInt 4000).toInt32 + ((Int8.ofInt 100).toInt32 * (Int32.ofNat v)))) (l := (rowS W (W * H) (v))) (by omega) P (by omega) (of_b (show (((Int16.ofInt 4000).toInt32 + ((Int8.ofInt 100).toInt32 * (Int32.ofNat v)))).toInt = ((4000 + 100 * v : Nat) : Int) by rw [t_4] <;> omega) (by omega)) (fs_al (by omega)).symm
    refine g_virt2 (Qc := fun r h' => r = none ∧ lcP h' W (W * H) (L ++ [4000 + 100 * v]) B0 S1 S2 ∧ scE h h') rfl (by decide) rfl hS rfl (Nat.le_of_ble_eq_true rfl) (hadd) (fun r h9 hq9 => ?_)
    obtain ⟨rfl, P1, E1⟩ := hq9
    refine g_iinc (i := 4) (L1 := [some (.ref 38), some (.ref 5), some (.int x2), some (.int x3), some (.int ((Int32.ofNat v) + Int32.ofInt 1))]) rfl rfl rfl ?_
    rw [ofN_add (by omega)]
    refine g_goto 54 rfl rfl ?_
    exact ih (v + 1) h9 (L ++ [4000 + 100 * v]) (by omega) (by omega) (by rw [List.length_append]; rw [List.length_cons] at hl; show L.length + 1 + _ ≤ 644; omega) (scE_tr E E1) P1 (fun h' e p => hQ h' e (by rw [List.append_assoc] at p; exact p))
theorem s_lc_bn3 {d : Nat} {h0 : sHp} {c : CF} {W H : Nat} {B0 : Nat → Int32} {S1 S2 : Int64} {Q : Option Value → sHp → Prop} (hd : 4 ≤ d) (g : gdF c W H) (F0 : FC h0 5 c) {a b : Nat} (ha : a ≤ 8) (hb : b ≤ 8) : ∀ (f v : Nat) (h : sHp) (L : List Nat), v + f = W + 1 → True → L.length + (bnT3 f v a b).length ≤ 644 → scE h0 h → lcP h W (W * H) L B0 S1 S2 → (∀ (h' : sHp), scE h0 h' → lcP h' W (W * H) (L ++ bnT3 f v a b) B0 S1 S2 → sGo none 93 d 66 [some (.ref 38), some (.ref 5), some (.int (Int32.ofNat a)), some (.int (Int32.ofNat b)), some (.int (Int32.ofNat (W + 1)))] [] h' Q) → sGo none 93 d 23 [some (.ref 38), some (.ref 5), some (.int (Int32.ofNat a)), some (.int (Int32.ofNat b)), some (.int (Int32.ofNat v))] [] h Q := by
  have gd := g
  obtain ⟨gw, gh, w2, w8, h2, h8, -⟩ := gd
  have hw0 : (c.1 0).toInt = ((W : Nat) : Int) := by rw [gw]; exact ofN_toInt (by omega)
  have hw1 : (c.1 1).toInt = ((H : Nat) : Int) := by rw [gh]; exact ofN_toInt (by omega)
  have hn := gdF_n g
  intro f
  induction f with
  | zero =>
    intro v h L hv hv1 hl E P hQ
    have F := scE_FC E F0
    have ek := ofN_toInt (n := v) (by omega)
    refine g_iload (i := 4) rfl rfl ?_
    refine g_aload_n (i := 1) rfl rfl ?_
    refine g_getfield (v := .int (c.1 0)) rfl F.1 (by decide) rfl ?_
    refine g_icmp_gt 66 rfl rfl (fun _ => ?_) (fun hc => absurd hc (by rw [i_lt, hw0, ek]; omega))
    have key := hQ h E (by rw [show bnT3 0 v a b = [] from rfl, List.append_nil]; exact P)
    rw [show v = W + 1 by omega]
    exact key
  | succ f ih =>
    intro v h L hv hv1 hl E P hQ
    have F := scE_FC E F0
    have ek := ofN_toInt (n := v) (by omega)
    obtain ⟨B, fc, ff, hS, -⟩ := id P
    rw [show bnT3 (f + 1) v a b = (2000 + 100 * a + 10 * b + v) :: bnT3 f (v + 1) a b from rfl] at hl hQ
    have ea := ofN_toInt (n := a) (by omega)
    have eb := ofN_toInt (n := b) (by omega)
    have hl5 := hl
    rw [List.length_cons] at hl5
    refine g_iload (i := 4) rfl rfl ?_
    refine g_aload_n (i := 1) rfl rfl ?_
    refine g_getfield (v := .int (c.1 0)) rfl F.1 (by decide) rfl ?_
    refine g_icmp_gt 66 rfl rfl (fun hc => absurd hc (by rw [i_lt, hw0, ek]; omega)) (fun _ => ?_)
    refine g_aload_n (i := 0) rfl rfl ?_
    refine g_sipush (n := 2000) rfl ?_
    refine g_bipush (n := 100) rfl ?_
    refine g_iload_n (i := 2) rfl rfl ?_
    have k_1 : ((Int8.ofInt 100).toInt32).toInt = 100 := rfl
    refine g_imul rfl ?_
    have t_2 : (((Int8.ofInt 100).toInt32 * (Int32.ofNat a))).toInt = ((100 * a : Nat) : Int) := n_mul (X := 100) (Y := a) (show _ = ((100 : Nat) : Int) from k_1) (show _ = ((a : Nat) : Int) from ea) (by omega)
    have k_3 : ((Int16.ofInt 2000).toInt32).toInt = 2000 := rfl
    refine g_iadd rfl ?_
    have t_4 : ((Int16.ofInt 2000).toInt32 + ((Int8.ofInt 100).toInt32 * (Int32.ofNat a))).toInt = ((2000 + 100 * a : Nat) : Int) := by rw [i_add (by rw [k_3, t_2]; omega) (by rw [k_3, t_2]; omega), k_3, t_2]; omega
    refine g_bipush (n := 10) rfl ?_
    refine g_iload_n (i := 3) rfl rfl ?_
    have k_5 : ((Int8.ofInt 10).toInt32).toInt = 10 := rfl
    refine g_imul rfl ?_
    have t_6 : (((Int8.ofInt 10).toInt32 * (Int32.ofNat b))).toInt = ((10 * b : Nat) : Int) := n_mul (X := 10) (Y := b) (show _ = ((10 : Nat) : Int) from k_5) (show _ = ((b : Nat) : Int) from eb) (by omega)
    refine g_iadd rfl ?_
    have t_7 : (((Int16.ofInt 2000).toInt32 + ((Int8.ofInt 100).toInt32 * (Int32.ofNat a))) + ((Int8.ofInt 10).toInt32 * (Int32.ofNat b))).toInt = ((2000 + 100 * a + 10 * b : Nat) : Int) := by rw [i_add (by rw [t_4, t_6]; omega) (by rw [t_4, t_6]; omega), t_4, t_6]; omega
    refine g_iload (i := 4) rfl rfl ?_
    refine g_iadd rfl ?_
    have t_8 : ((((Int16.ofInt 2000).toInt32 + ((Int8.ofInt 100).toInt32 * (Int32.ofNat a))) + ((Int8.ofInt 10).toInt32 * (Int32.ofNat b))) + (Int32.ofNat v)).toInt = ((2000 + 100 * a + 10 * b + v : Nat) : Int) := by rw [i_add (by rw [t_7, ek]; omega) (by rw [t_7, ek]; omega), t_7, ek]; omega
    refine g_aload_n (i := 1) rfl rfl ?_
    refine g_iload_n (i := 2) rfl rfl ?_
    refine g_iload_n (i := 3) rfl rfl ?_
    refine g_iload (i := 4) rfl rfl ?_
    refine g_virt3 (Qc := fun r h' => h' = h ∧ r = some (.long (benS W (W * H) (a) (b) (v)))) rfl (by decide) rfl F.1 rfl (Nat.le_of_ble_eq_true rfl) (s_bent (by omega) F g ea eb ek (by omega)) (fun r h hq9 => ?_)
    obtain ⟨rfl, rfl⟩ := hq9
    have hadd := s_addCut (d := d) (C := 2000 + 100 * a + 10 * b + v) (x := ((((Int16.ofInt 2000).toInt32 + ((Int8.ofInt 100).toInt32 * (Int32.ofNat a))) + ((Int8.ofInt 10).toInt32 * (Int32.ofNat b))) + (Int32.ofNat v))) (l := (benS W (W * H) (a) (b) (v))) (by omega) P (by omega) (of_b (show (((((Int16.ofInt 2000).toInt32 + ((Int8.ofInt 100).toInt32 * (Int32.ofNat a))) + ((Int8.ofInt 10).toInt32 * (Int32.ofNat b))) + (Int32.ofNat v))).toInt = ((2000 + 100 * a + 10 * b + v : Nat) : Int) by rw [t_8] <;> omega) (by omega)) (fs_bn (by omega) (by omega) (by omega)).symm
    refine g_virt2 (Qc := fun r h' => r = none ∧ lcP h' W (W * H) (L ++ [2000 + 100 * a + 10 * b + v]) B0 S1 S2 ∧ scE h h') rfl (by decide) rfl hS rfl (Nat.le_of_ble_eq_true rfl) (hadd) (fun r h9 hq9 => ?_)
    obtain ⟨rfl, P1, E1⟩ := hq9
    refine g_iinc (i := 4) (L1 := [some (.ref 38), some (.ref 5), some (.int (Int32.ofNat a)), some (.int (Int32.ofNat b)), some (.int ((Int32.ofNat v) + Int32.ofInt 1))]) rfl rfl rfl ?_
    rw [ofN_add (by omega)]
    refine g_goto 23 rfl rfl ?_
    exact ih (v + 1) h9 (L ++ [2000 + 100 * a + 10 * b + v]) (by omega) (by omega) (by rw [List.length_append]; rw [List.length_cons] at hl; show L.length + 1 + _ ≤ 644; omega) (scE_tr E E1) P1 (fun h' e p => hQ h' e (by rw [List.append_assoc] at p; exact p))
theorem s_lc_bn2 {d : Nat} {h0 : sHp} {c : CF} {W H : Nat} {B0 : Nat → Int32} {S1 S2 : Int64} {Q : Option Value → sHp → Prop} (hd : 4 ≤ d) (g : gdF c W H) (F0 : FC h0 5 c) {a : Nat} (ha : a ≤ 8) : ∀ (f v : Nat) (o4 : Option Value) (h : sHp) (L : List Nat), v + f = H → 1 ≤ v → L.length + (bnT2 W f v a).length ≤ 644 → scE h0 h → lcP h W (W * H) L B0 S1 S2 → (∀ (h' : sHp) (o4 : Option Value), scE h0 h' → lcP h' W (W * H) (L ++ bnT2 W f v a) B0 S1 S2 → sGo none 93 d 72 [some (.ref 38), some (.ref 5), some (.int (Int32.ofNat a)), some (.int (Int32.ofNat H)), o4] [] h' Q) → sGo none 93 d 12 [some (.ref 38), some (.ref 5), some (.int (Int32.ofNat a)), some (.int (Int32.ofNat v)), o4] [] h Q := by
  have gd := g
  obtain ⟨gw, gh, w2, w8, h2, h8, -⟩ := gd
  have hw0 : (c.1 0).toInt = ((W : Nat) : Int) := by rw [gw]; exact ofN_toInt (by omega)
  have hw1 : (c.1 1).toInt = ((H : Nat) : Int) := by rw [gh]; exact ofN_toInt (by omega)
  have hn := gdF_n g
  intro f
  induction f with
  | zero =>
    intro v o4 h L hv hv1 hl E P hQ
    have F := scE_FC E F0
    have ek := ofN_toInt (n := v) (by omega)
    refine g_iload_n (i := 3) rfl rfl ?_
    refine g_aload_n (i := 1) rfl rfl ?_
    refine g_getfield (v := .int (c.1 1)) rfl F.1 (by decide) rfl ?_
    refine g_icmp_ge 72 rfl rfl (fun _ => ?_) (fun hc => absurd hc (by rw [i_le, hw1, ek]; omega))
    have key := hQ h o4 E (by rw [show bnT2 W 0 v a = [] from rfl, List.append_nil]; exact P)
    rw [show v = H by omega]
    exact key
  | succ f ih =>
    intro v o4 h L hv hv1 hl E P hQ
    have F := scE_FC E F0
    have ek := ofN_toInt (n := v) (by omega)
    obtain ⟨B, fc, ff, hS, -⟩ := id P
    rw [show bnT2 W (f + 1) v a = bnT3 (W + 1) 0 a v ++ bnT2 W f (v + 1) a from rfl] at hl hQ
    have ea := ofN_toInt (n := a) (by omega)
    refine g_iload_n (i := 3) rfl rfl ?_
    refine g_aload_n (i := 1) rfl rfl ?_
    refine g_getfield (v := .int (c.1 1)) rfl F.1 (by decide) rfl ?_
    refine g_icmp_ge 72 rfl rfl (fun hc => absurd hc (by rw [i_le, hw1, ek]; omega)) (fun _ => ?_)
    refine g_iconst (n := 0) rfl ?_
    refine g_istore (i := 4) (L1 := [some (.ref 38), some (.ref 5), some (.int (Int32.ofNat a)), some (.int (Int32.ofNat v)), some (.int (Int32.ofInt 0))]) rfl (Nat.le_of_ble_eq_true rfl) rfl ?_
    have hl2 := hl
    rw [List.length_append] at hl2
    refine s_lc_bn3 hd g F0 ha (show v ≤ 8 by omega) (W + 1) 0 h L (by omega) trivial (by omega) E P (fun h2 E2 P2 => ?_)
    refine g_iinc (i := 3) (L1 := [some (.ref 38), some (.ref 5), some (.int (Int32.ofNat a)), some (.int ((Int32.ofNat v) + Int32.ofInt 1)), some (.int (Int32.ofNat (W + 1)))]) rfl rfl rfl ?_
    rw [ofN_add (by omega)]
    refine g_goto 12 rfl rfl ?_
    exact ih (v + 1) _ h2 (L ++ bnT3 (W + 1) 0 a v) (by omega) (by omega) (by rw [List.length_append]; omega) E2 P2 (fun h' x0 e p => hQ h' x0 e (by rw [List.append_assoc] at p; exact p))
theorem s_lc_bn1 {d : Nat} {h0 : sHp} {c : CF} {W H : Nat} {B0 : Nat → Int32} {S1 S2 : Int64} {Q : Option Value → sHp → Prop} (hd : 4 ≤ d) (g : gdF c W H) (F0 : FC h0 5 c) : ∀ (f v : Nat) (o3 : Option Value) (o4 : Option Value) (h : sHp) (L : List Nat), v + f = W + 1 → True → L.length + (bnT1 W H f v).length ≤ 644 → scE h0 h → lcP h W (W * H) L B0 S1 S2 → (∀ (h' : sHp) (o3 : Option Value) (o4 : Option Value), scE h0 h' → lcP h' W (W * H) (L ++ bnT1 W H f v) B0 S1 S2 → sGo none 93 d 78 [some (.ref 38), some (.ref 5), some (.int (Int32.ofNat (W + 1))), o3, o4] [] h' Q) → sGo none 93 d 2 [some (.ref 38), some (.ref 5), some (.int (Int32.ofNat v)), o3, o4] [] h Q := by
  have gd := g
  obtain ⟨gw, gh, w2, w8, h2, h8, -⟩ := gd
  have hw0 : (c.1 0).toInt = ((W : Nat) : Int) := by rw [gw]; exact ofN_toInt (by omega)
  have hw1 : (c.1 1).toInt = ((H : Nat) : Int) := by rw [gh]; exact ofN_toInt (by omega)
  have hn := gdF_n g
  intro f
  induction f with
  | zero =>
    intro v o3 o4 h L hv hv1 hl E P hQ
    have F := scE_FC E F0
    have ek := ofN_toInt (n := v) (by omega)
    refine g_iload_n (i := 2) rfl rfl ?_
    refine g_aload_n (i := 1) rfl rfl ?_
    refine g_getfield (v := .int (c.1 0)) rfl F.1 (by decide) rfl ?_
    refine g_icmp_gt 78 rfl rfl (fun _ => ?_) (fun hc => absurd hc (by rw [i_lt, hw0, ek]; omega))
    have key := hQ h o3 o4 E (by rw [show bnT1 W H 0 v = [] from rfl, List.append_nil]; exact P)
    rw [show v = W + 1 by omega]
    exact key
  | succ f ih =>
    intro v o3 o4 h L hv hv1 hl E P hQ
    have F := scE_FC E F0
    have ek := ofN_toInt (n := v) (by omega)
    obtain ⟨B, fc, ff, hS, -⟩ := id P
    rw [show bnT1 W H (f + 1) v = bnT2 W (H - 1) 1 v ++ bnT1 W H f (v + 1) from rfl] at hl hQ
    refine g_iload_n (i := 2) rfl rfl ?_
    refine g_aload_n (i := 1) rfl rfl ?_
    refine g_getfield (v := .int (c.1 0)) rfl F.1 (by decide) rfl ?_
    refine g_icmp_gt 78 rfl rfl (fun hc => absurd hc (by rw [i_lt, hw0, ek]; omega)) (fun _ => ?_)
    refine g_iconst (n := 1) rfl ?_
    refine g_istore_n (i := 3) (L1 := [some (.ref 38), some (.ref 5), some (.int (Int32.ofNat v)), some (.int (Int32.ofInt 1)), o4]) rfl (Nat.le_of_ble_eq_true rfl) rfl ?_
    have hl2 := hl
    rw [List.length_append] at hl2
    refine s_lc_bn2 hd g F0 (show v ≤ 8 by omega) (H - 1) 1 _ h L (by omega) (by omega) (by omega) E P (fun h2 o5 E2 P2 => ?_)
    refine g_iinc (i := 2) (L1 := [some (.ref 38), some (.ref 5), some (.int ((Int32.ofNat v) + Int32.ofInt 1)), some (.int (Int32.ofNat H)), o5]) rfl rfl rfl ?_
    rw [ofN_add (by omega)]
    refine g_goto 2 rfl rfl ?_
    exact ih (v + 1) _ _ h2 (L ++ bnT2 W (H - 1) 1 v) (by omega) (by omega) (by rw [List.length_append]; omega) E2 P2 (fun h' x0 x1 e p => hQ h' x0 x1 e (by rw [List.append_assoc] at p; exact p))
theorem s_lc_fr2 {d : Nat} {h0 : sHp} {c : CF} {W H : Nat} {B0 : Nat → Int32} {S1 S2 : Int64} {Q : Option Value → sHp → Prop} (hd : 4 ≤ d) (g : gdF c W H) (F0 : FC h0 5 c) {a : Nat} (ha : a ≤ 8) : ∀ (f v : Nat) (h : sHp) (L : List Nat), v + f = H + 1 → 1 ≤ v → L.length + (frT2 W H f v a).length ≤ 644 → scE h0 h → lcP h W (W * H) L B0 S1 S2 → (∀ (h' : sHp), scE h0 h' → lcP h' W (W * H) (L ++ frT2 W H f v a) B0 S1 S2 → sGo none 94 d 65 [some (.ref 38), some (.ref 5), some (.int (Int32.ofNat a)), some (.int (Int32.ofNat (H + 1)))] [] h' Q) → sGo none 94 d 12 [some (.ref 38), some (.ref 5), some (.int (Int32.ofNat a)), some (.int (Int32.ofNat v))] [] h Q := by
  have gd := g
  obtain ⟨gw, gh, w2, w8, h2, h8, -⟩ := gd
  have hw0 : (c.1 0).toInt = ((W : Nat) : Int) := by rw [gw]; exact ofN_toInt (by omega)
  have hw1 : (c.1 1).toInt = ((H : Nat) : Int) := by rw [gh]; exact ofN_toInt (by omega)
  have hn := gdF_n g
  intro f
  induction f with
  | zero =>
    intro v h L hv hv1 hl E P hQ
    have F := scE_FC E F0
    have ek := ofN_toInt (n := v) (by omega)
    refine g_iload_n (i := 3) rfl rfl ?_
    refine g_aload_n (i := 1) rfl rfl ?_
    refine g_getfield (v := .int (c.1 1)) rfl F.1 (by decide) rfl ?_
    refine g_icmp_gt 65 rfl rfl (fun _ => ?_) (fun hc => absurd hc (by rw [i_lt, hw1, ek]; omega))
    have key := hQ h E (by rw [show frT2 W H 0 v a = [] from rfl, List.append_nil]; exact P)
    rw [show v = H + 1 by omega]
    exact key
  | succ f ih =>
    intro v h L hv hv1 hl E P hQ
    have F := scE_FC E F0
    have ek := ofN_toInt (n := v) (by omega)
    obtain ⟨B, fc, ff, hS, -⟩ := id P
    rw [show frT2 W H (f + 1) v a = (if a < W ∨ v < H then [5000 + 100 * a + 10 * v] else []) ++ frT2 W H f (v + 1) a from rfl] at hl hQ
    have ea := ofN_toInt (n := a) (by omega)
    refine g_iload_n (i := 3) rfl rfl ?_
    refine g_aload_n (i := 1) rfl rfl ?_
    refine g_getfield (v := .int (c.1 1)) rfl F.1 (by decide) rfl ?_
    refine g_icmp_gt 65 rfl rfl (fun hc => absurd hc (by rw [i_lt, hw1, ek]; omega)) (fun _ => ?_)
    refine g_iload_n (i := 2) rfl rfl ?_
    refine g_aload_n (i := 1) rfl rfl ?_
    refine g_getfield (v := .int (c.1 0)) rfl F.1 (by decide) rfl ?_
    refine g_icmp_lt 36 rfl rfl (fun c_1 => ?_) (fun c_1 => ?_)
    · skip
      rw [i_lt, ea, hw0] at c_1
      refine g_aload_n (i := 0) rfl rfl ?_
      refine g_sipush (n := 5000) rfl ?_
      refine g_bipush (n := 100) rfl ?_
      refine g_iload_n (i := 2) rfl rfl ?_
      have k_2 : ((Int8.ofInt 100).toInt32).toInt = 100 := rfl
      refine g_imul rfl ?_
      have t_3 : (((Int8.ofInt 100).toInt32 * (Int32.ofNat a))).toInt = ((100 * a : Nat) : Int) := n_mul (X := 100) (Y := a) (show _ = ((100 : Nat) : Int) from k_2) (show _ = ((a : Nat) : Int) from ea) (by omega)
      have k_4 : ((Int16.ofInt 5000).toInt32).toInt = 5000 := rfl
      refine g_iadd rfl ?_
      have t_5 : ((Int16.ofInt 5000).toInt32 + ((Int8.ofInt 100).toInt32 * (Int32.ofNat a))).toInt = ((5000 + 100 * a : Nat) : Int) := by rw [i_add (by rw [k_4, t_3]; omega) (by rw [k_4, t_3]; omega), k_4, t_3]; omega
      refine g_bipush (n := 10) rfl ?_
      refine g_iload_n (i := 3) rfl rfl ?_
      have k_6 : ((Int8.ofInt 10).toInt32).toInt = 10 := rfl
      refine g_imul rfl ?_
      have t_7 : (((Int8.ofInt 10).toInt32 * (Int32.ofNat v))).toInt = ((10 * v : Nat) : Int) := n_mul (X := 10) (Y := v) (show _ = ((10 : Nat) : Int) from k_6) (show _ = ((v : Nat) : Int) from ek) (by omega)
      refine g_iadd rfl ?_
      have t_8 : (((Int16.ofInt 5000).toInt32 + ((Int8.ofInt 100).toInt32 * (Int32.ofNat a))) + ((Int8.ofInt 10).toInt32 * (Int32.ofNat v))).toInt = ((5000 + 100 * a + 10 * v : Nat) : Int) := by rw [i_add (by rw [t_5, t_7]; omega) (by rw [t_5, t_7]; omega), t_5, t_7]; omega
      refine g_aload_n (i := 1) rfl rfl ?_
      refine g_iload_n (i := 2) rfl rfl ?_
      refine g_iload_n (i := 3) rfl rfl ?_
      refine g_virt2 (Qc := fun r h' => h' = h ∧ r = some (.long (corS W (W * H) (a) (v)))) rfl (by decide) rfl F.1 rfl (Nat.le_of_ble_eq_true rfl) (s_corner (by omega) F g ea ek (by omega)) (fun r h hq9 => ?_)
      obtain ⟨rfl, rfl⟩ := hq9
      have hl3 := hl
      rw [if_pos (by omega), List.length_append] at hl3
      have e1 : [5000 + 100 * a + 10 * v].length = 1 := rfl
      have hadd := s_addCut (d := d) (C := 5000 + 100 * a + 10 * v) (x := (((Int16.ofInt 5000).toInt32 + ((Int8.ofInt 100).toInt32 * (Int32.ofNat a))) + ((Int8.ofInt 10).toInt32 * (Int32.ofNat v)))) (l := (corS W (W * H) (a) (v))) (by omega) P (by omega) (of_b (show ((((Int16.ofInt 5000).toInt32 + ((Int8.ofInt 100).toInt32 * (Int32.ofNat a))) + ((Int8.ofInt 10).toInt32 * (Int32.ofNat v)))).toInt = ((5000 + 100 * a + 10 * v : Nat) : Int) by rw [t_8] <;> omega) (by omega)) (fs_fr (by omega) (by omega)).symm
      refine g_virt2 (Qc := fun r h' => r = none ∧ lcP h' W (W * H) (L ++ [5000 + 100 * a + 10 * v]) B0 S1 S2 ∧ scE h h') rfl (by decide) rfl hS rfl (Nat.le_of_ble_eq_true rfl) (hadd) (fun r h9 hq9 => ?_)
      obtain ⟨rfl, P1, E1⟩ := hq9
      refine g_iinc (i := 3) (L1 := [some (.ref 38), some (.ref 5), some (.int (Int32.ofNat a)), some (.int ((Int32.ofNat v) + Int32.ofInt 1))]) rfl rfl rfl ?_
      rw [ofN_add (by omega)]
      refine g_goto 12 rfl rfl ?_
      rw [if_pos (by omega)] at hl hQ
      exact ih (v + 1) h9 (L ++ [5000 + 100 * a + 10 * v]) (by omega) (by omega) (by rw [List.length_append]; rw [List.length_append] at hl; show L.length + 1 + _ ≤ 644; have e1 : [5000 + 100 * a + 10 * v].length = 1 := rfl; omega) (scE_tr E E1) P1 (fun h' e p => hQ h' e (by rw [List.append_assoc] at p; exact p))
    · skip
      rw [i_lt, ea, hw0] at c_1
      refine g_iload_n (i := 3) rfl rfl ?_
      refine g_aload_n (i := 1) rfl rfl ?_
      refine g_getfield (v := .int (c.1 1)) rfl F.1 (by decide) rfl ?_
      refine g_icmp_ge 59 rfl rfl (fun c_9 => ?_) (fun c_9 => ?_)
      · skip
        rw [i_le, ek, hw1] at c_9
        refine g_iinc (i := 3) (L1 := [some (.ref 38), some (.ref 5), some (.int (Int32.ofNat a)), some (.int ((Int32.ofNat v) + Int32.ofInt 1))]) rfl rfl rfl ?_
        rw [ofN_add (by omega)]
        refine g_goto 12 rfl rfl ?_
        rw [if_neg (by omega), List.nil_append] at hl hQ
        exact ih (v + 1) h L (by omega) (by omega) (by omega) E P hQ
      · skip
        rw [i_le, ek, hw1] at c_9
        refine g_aload_n (i := 0) rfl rfl ?_
        refine g_sipush (n := 5000) rfl ?_
        refine g_bipush (n := 100) rfl ?_
        refine g_iload_n (i := 2) rfl rfl ?_
        have k_10 : ((Int8.ofInt 100).toInt32).toInt = 100 := rfl
        refine g_imul rfl ?_
        have t_11 : (((Int8.ofInt 100).toInt32 * (Int32.ofNat a))).toInt = ((100 * a : Nat) : Int) := n_mul (X := 100) (Y := a) (show _ = ((100 : Nat) : Int) from k_10) (show _ = ((a : Nat) : Int) from ea) (by omega)
        have k_12 : ((Int16.ofInt 5000).toInt32).toInt = 5000 := rfl
        refine g_iadd rfl ?_
        have t_13 : ((Int16.ofInt 5000).toInt32 + ((Int8.ofInt 100).toInt32 * (Int32.ofNat a))).toInt = ((5000 + 100 * a : Nat) : Int) := by rw [i_add (by rw [k_12, t_11]; omega) (by rw [k_12, t_11]; omega), k_12, t_11]; omega
        refine g_bipush (n := 10) rfl ?_
        refine g_iload_n (i := 3) rfl rfl ?_
        have k_14 : ((Int8.ofInt 10).toInt32).toInt = 10 := rfl
        refine g_imul rfl ?_
        have t_15 : (((Int8.ofInt 10).toInt32 * (Int32.ofNat v))).toInt = ((10 * v : Nat) : Int) := n_mul (X := 10) (Y := v) (show _ = ((10 : Nat) : Int) from k_14) (show _ = ((v : Nat) : Int) from ek) (by omega)
        refine g_iadd rfl ?_
        have t_16 : (((Int16.ofInt 5000).toInt32 + ((Int8.ofInt 100).toInt32 * (Int32.ofNat a))) + ((Int8.ofInt 10).toInt32 * (Int32.ofNat v))).toInt = ((5000 + 100 * a + 10 * v : Nat) : Int) := by rw [i_add (by rw [t_13, t_15]; omega) (by rw [t_13, t_15]; omega), t_13, t_15]; omega
        refine g_aload_n (i := 1) rfl rfl ?_
        refine g_iload_n (i := 2) rfl rfl ?_
        refine g_iload_n (i := 3) rfl rfl ?_
        refine g_virt2 (Qc := fun r h' => h' = h ∧ r = some (.long (corS W (W * H) (a) (v)))) rfl (by decide) rfl F.1 rfl (Nat.le_of_ble_eq_true rfl) (s_corner (by omega) F g ea ek (by omega)) (fun r h hq9 => ?_)
        obtain ⟨rfl, rfl⟩ := hq9
        have hl3 := hl
        rw [if_pos (by omega), List.length_append] at hl3
        have e1 : [5000 + 100 * a + 10 * v].length = 1 := rfl
        have hadd := s_addCut (d := d) (C := 5000 + 100 * a + 10 * v) (x := (((Int16.ofInt 5000).toInt32 + ((Int8.ofInt 100).toInt32 * (Int32.ofNat a))) + ((Int8.ofInt 10).toInt32 * (Int32.ofNat v)))) (l := (corS W (W * H) (a) (v))) (by omega) P (by omega) (of_b (show ((((Int16.ofInt 5000).toInt32 + ((Int8.ofInt 100).toInt32 * (Int32.ofNat a))) + ((Int8.ofInt 10).toInt32 * (Int32.ofNat v)))).toInt = ((5000 + 100 * a + 10 * v : Nat) : Int) by rw [t_16] <;> omega) (by omega)) (fs_fr (by omega) (by omega)).symm
        refine g_virt2 (Qc := fun r h' => r = none ∧ lcP h' W (W * H) (L ++ [5000 + 100 * a + 10 * v]) B0 S1 S2 ∧ scE h h') rfl (by decide) rfl hS rfl (Nat.le_of_ble_eq_true rfl) (hadd) (fun r h9 hq9 => ?_)
        obtain ⟨rfl, P1, E1⟩ := hq9
        refine g_iinc (i := 3) (L1 := [some (.ref 38), some (.ref 5), some (.int (Int32.ofNat a)), some (.int ((Int32.ofNat v) + Int32.ofInt 1))]) rfl rfl rfl ?_
        rw [ofN_add (by omega)]
        refine g_goto 12 rfl rfl ?_
        rw [if_pos (by omega)] at hl hQ
        exact ih (v + 1) h9 (L ++ [5000 + 100 * a + 10 * v]) (by omega) (by omega) (by rw [List.length_append]; rw [List.length_append] at hl; show L.length + 1 + _ ≤ 644; have e1 : [5000 + 100 * a + 10 * v].length = 1 := rfl; omega) (scE_tr E E1) P1 (fun h' e p => hQ h' e (by rw [List.append_assoc] at p; exact p))
theorem s_lc_fr1 {d : Nat} {h0 : sHp} {c : CF} {W H : Nat} {B0 : Nat → Int32} {S1 S2 : Int64} {Q : Option Value → sHp → Prop} (hd : 4 ≤ d) (g : gdF c W H) (F0 : FC h0 5 c) : ∀ (f v : Nat) (o3 : Option Value) (h : sHp) (L : List Nat), v + f = W + 1 → 1 ≤ v → L.length + (frT1 W H f v).length ≤ 644 → scE h0 h → lcP h W (W * H) L B0 S1 S2 → (∀ (h' : sHp) (o3 : Option Value), scE h0 h' → lcP h' W (W * H) (L ++ frT1 W H f v) B0 S1 S2 → sGo none 94 d 71 [some (.ref 38), some (.ref 5), some (.int (Int32.ofNat (W + 1))), o3] [] h' Q) → sGo none 94 d 2 [some (.ref 38), some (.ref 5), some (.int (Int32.ofNat v)), o3] [] h Q := by
  have gd := g
  obtain ⟨gw, gh, w2, w8, h2, h8, -⟩ := gd
  have hw0 : (c.1 0).toInt = ((W : Nat) : Int) := by rw [gw]; exact ofN_toInt (by omega)
  have hw1 : (c.1 1).toInt = ((H : Nat) : Int) := by rw [gh]; exact ofN_toInt (by omega)
  have hn := gdF_n g
  intro f
  induction f with
  | zero =>
    intro v o3 h L hv hv1 hl E P hQ
    have F := scE_FC E F0
    have ek := ofN_toInt (n := v) (by omega)
    refine g_iload_n (i := 2) rfl rfl ?_
    refine g_aload_n (i := 1) rfl rfl ?_
    refine g_getfield (v := .int (c.1 0)) rfl F.1 (by decide) rfl ?_
    refine g_icmp_gt 71 rfl rfl (fun _ => ?_) (fun hc => absurd hc (by rw [i_lt, hw0, ek]; omega))
    have key := hQ h o3 E (by rw [show frT1 W H 0 v = [] from rfl, List.append_nil]; exact P)
    rw [show v = W + 1 by omega]
    exact key
  | succ f ih =>
    intro v o3 h L hv hv1 hl E P hQ
    have F := scE_FC E F0
    have ek := ofN_toInt (n := v) (by omega)
    obtain ⟨B, fc, ff, hS, -⟩ := id P
    rw [show frT1 W H (f + 1) v = frT2 W H H 1 v ++ frT1 W H f (v + 1) from rfl] at hl hQ
    refine g_iload_n (i := 2) rfl rfl ?_
    refine g_aload_n (i := 1) rfl rfl ?_
    refine g_getfield (v := .int (c.1 0)) rfl F.1 (by decide) rfl ?_
    refine g_icmp_gt 71 rfl rfl (fun hc => absurd hc (by rw [i_lt, hw0, ek]; omega)) (fun _ => ?_)
    refine g_iconst (n := 1) rfl ?_
    refine g_istore_n (i := 3) (L1 := [some (.ref 38), some (.ref 5), some (.int (Int32.ofNat v)), some (.int (Int32.ofInt 1))]) rfl (Nat.le_of_ble_eq_true rfl) rfl ?_
    have hl2 := hl
    rw [List.length_append] at hl2
    refine s_lc_fr2 hd g F0 (show v ≤ 8 by omega) H 1 h L (by omega) (by omega) (by omega) E P (fun h2 E2 P2 => ?_)
    refine g_iinc (i := 2) (L1 := [some (.ref 38), some (.ref 5), some (.int ((Int32.ofNat v) + Int32.ofInt 1)), some (.int (Int32.ofNat (H + 1)))]) rfl rfl rfl ?_
    rw [ofN_add (by omega)]
    refine g_goto 2 rfl rfl ?_
    exact ih (v + 1) _ h2 (L ++ frT2 W H H 1 v) (by omega) (by omega) (by rw [List.length_append]; omega) E2 P2 (fun h' x0 e p => hQ h' x0 e (by rw [List.append_assoc] at p; exact p))
theorem s_addBent {d : Nat} {h : sHp} {c : CF} {W H : Nat} {L : List Nat} {B0 : Nat → Int32} {S1 S2 : Int64} (hd : 5 ≤ d) (F : FC h 5 c) (g : gdF c W H) (hl : L.length + (bnT1 W H (W + 1) 0).length ≤ 644) (P : lcP h W (W * H) L B0 S1 S2) : sDo d 93 [.ref 38, .ref 5] h (fun r h' => r = none ∧ lcP h' W (W * H) (L ++ bnT1 W H (W + 1) 0) B0 S1 S2 ∧ scE h h') := by
  have g' := g
  obtain ⟨-, -, w2, -⟩ := g'
  refine sDo_of1 (nL := 5) (L := [some (.ref 38), some (.ref 5), none, none, none]) (by omega) rfl rfl ?_
  refine g_iconst (n := 0) rfl ?_
  refine g_istore_n (i := 2) (L1 := [some (.ref 38), some (.ref 5), some (.int (Int32.ofInt 0)), none, none]) rfl (Nat.le_of_ble_eq_true rfl) rfl ?_
  refine s_lc_bn1 (d := d - 1) (by omega) g F (W + 1) 0 none none h L (by omega) trivial hl scE_rfl P (fun h2 o3 o4 E2 P2 => ?_)
  refine g_return rfl rfl ?_
  exact ⟨rfl, P2, E2⟩
theorem s_addFrom {d : Nat} {h : sHp} {c : CF} {W H : Nat} {L : List Nat} {B0 : Nat → Int32} {S1 S2 : Int64} (hd : 5 ≤ d) (F : FC h 5 c) (g : gdF c W H) (hl : L.length + (frT1 W H W 1).length ≤ 644) (P : lcP h W (W * H) L B0 S1 S2) : sDo d 94 [.ref 38, .ref 5] h (fun r h' => r = none ∧ lcP h' W (W * H) (L ++ frT1 W H W 1) B0 S1 S2 ∧ scE h h') := by
  have g' := g
  obtain ⟨-, -, w2, -⟩ := g'
  refine sDo_of1 (nL := 4) (L := [some (.ref 38), some (.ref 5), none, none]) (by omega) rfl rfl ?_
  refine g_iconst (n := 1) rfl ?_
  refine g_istore_n (i := 2) (L1 := [some (.ref 38), some (.ref 5), some (.int (Int32.ofInt 1)), none]) rfl (Nat.le_of_ble_eq_true rfl) rfl ?_
  refine s_lc_fr1 (d := d - 1) (by omega) g F W 1 none h L (by omega) (by omega) hl scE_rfl P (fun h2 o3 E2 P2 => ?_)
  refine g_return rfl rfl ?_
  exact ⟨rfl, P2, E2⟩
theorem s_listCuts {d : Nat} {h : sHp} {c : CF} {W H : Nat} {B : Nat → Int32} {S1 S2 : Int64} {fc : Nat → Int32} {ff : Nat → Int64} {x2 x3 : Int32} (b4 b32 : Bool) (hd : 6 ≤ d) (F : FC h 5 c) (g : gdF c W H) (hS : h[38]? = some (sO B S1 S2)) (h39 : h[39]? = some (.inl (0, 644, .inl fc))) (h40 : h[40]? = some (.inl (1, 644, .inr (.inl ff)))) (e4 : b4 = decide (¬ x2 = 0)) (e32 : b32 = decide (¬ x3 = 0)) : sDo d 92 [.ref 38, .ref 5, .int x2, .int x3] h (fun r h' => r = none ∧ lcP h' W (W * H) (lsT W H b4 b32) B S1 S2 ∧ scE h h') := by
  have g' := g
  obtain ⟨-, -, w2, w8, h2, h8, -⟩ := g'
  have hls := ls_le w8 h8
  have P0 : lcP (h.set 38 (sO (upd B 6 (Int32.ofInt 0)) S1 S2)) W (W * H) [] B S1 S2 := ⟨_, fc, ff, s_set_eq hS, fun j hj => u_ne hj, u_at, by rw [s_set_ne (by decide)]; exact h39, by rw [s_set_ne (by decide)]; exact h40, (fun i c hi => by cases hi), (fun i c hi => by cases hi)⟩
  have E0 : scE h (h.set 38 (sO (upd B 6 (Int32.ofInt 0)) S1 S2)) := scE_set scE_rfl (by decide)
  unfold lsT
  refine sDo_of1 (nL := 5) (L := [some (.ref 38), some (.ref 5), some (.int x2), some (.int x3), none]) (by omega) rfl rfl ?_
  refine g_aload_n (i := 0) rfl rfl ?_
  refine g_iconst (n := 0) rfl ?_
  refine g_putfield (h1 := h.set 38 (sO (upd B 6 (Int32.ofInt 0)) S1 S2)) rfl hS (by decide) (Nat.le_of_ble_eq_true rfl) rfl rfl ?_
  refine g_iconst (n := 1) rfl ?_
  refine g_istore (i := 4) (L1 := [some (.ref 38), some (.ref 5), some (.int x2), some (.int x3), some (.int (Int32.ofInt 1))]) rfl (Nat.le_of_ble_eq_true rfl) rfl ?_
  refine s_lc_str (d := d - 1) (by omega) g F (W - 1) 1 _ [] (by omega) (by omega) (by show 0 + _ ≤ 644; omega) E0 P0 (fun h2 E2 P2 => ?_)
  rw [List.nil_append] at P2
  refine g_iload_n (i := 2) rfl rfl ?_
  refine g_if_eq 51 rfl rfl (fun c_1 => ?_) (fun c_1 => ?_)
  · skip
    refine g_iconst (n := 1) rfl ?_
    refine g_istore (i := 4) (L1 := [some (.ref 38), some (.ref 5), some (.int x2), some (.int x3), some (.int (Int32.ofInt 1))]) rfl (Nat.le_of_ble_eq_true rfl) rfl ?_
    rw [if_neg (by rw [e4, decide_eq_true_eq]; exact fun z => z c_1), List.nil_append]
    have F3 := scE_FC E2 F
    refine s_lc_al (d := d - 1) (by omega) g F (H - 1) 1 _ (strT (W - 1) 1) (by omega) (by omega) (by omega) E2 P2 (fun h4 E4 P4 => ?_)
    refine g_iload_n (i := 3) rfl rfl ?_
    refine g_if_eq 97 rfl rfl (fun c_2 => ?_) (fun c_2 => ?_)
    · skip
      refine g_return rfl rfl ?_
      rw [if_neg (by rw [e32, decide_eq_true_eq]; exact fun z => z c_2), List.append_nil]
      exact ⟨rfl, by simpa only [List.append_assoc] using P4, E4⟩
    · skip
      obtain ⟨B4, fc4, ff4, hS4, -⟩ := id P4
      have F4 := scE_FC E4 F
      refine g_aload_n (i := 0) rfl rfl ?_
      refine g_aload_n (i := 1) rfl rfl ?_
      refine g_virt1 (Qc := fun r h' => r = none ∧ lcP h' W (W * H) ((strT (W - 1) 1 ++ alT (H - 1) 1) ++ frT1 W H W 1) B S1 S2 ∧ scE h4 h') rfl (by decide) rfl hS4 rfl (Nat.le_of_ble_eq_true rfl) (s_addFrom (d := d - 1) (by omega) F4 g (by simp only [List.length_append]; omega) P4) (fun r h5 hq9 => ?_)
      obtain ⟨rfl, P5, E5⟩ := hq9
      refine g_return rfl rfl ?_
      rw [if_pos (by rw [e32, decide_eq_true_eq]; exact c_2)]
      exact ⟨rfl, by simpa only [List.append_assoc] using P5, scE_tr E4 E5⟩
  · skip
    obtain ⟨B2, fc2, ff2, hS2, -⟩ := id P2
    have F2 := scE_FC E2 F
    refine g_aload_n (i := 0) rfl rfl ?_
    refine g_aload_n (i := 1) rfl rfl ?_
    refine g_virt1 (Qc := fun r h' => r = none ∧ lcP h' W (W * H) (strT (W - 1) 1 ++ bnT1 W H (W + 1) 0) B S1 S2 ∧ scE h2 h') rfl (by decide) rfl hS2 rfl (Nat.le_of_ble_eq_true rfl) (s_addBent (d := d - 1) (by omega) F2 g (by omega) P2) (fun r h3 hq9 => ?_)
    obtain ⟨rfl, P3, E3⟩ := hq9
    refine g_iconst (n := 1) rfl ?_
    refine g_istore (i := 4) (L1 := [some (.ref 38), some (.ref 5), some (.int x2), some (.int x3), some (.int (Int32.ofInt 1))]) rfl (Nat.le_of_ble_eq_true rfl) rfl ?_
    rw [if_pos (by rw [e4, decide_eq_true_eq]; exact c_1)]
    refine s_lc_al (d := d - 1) (by omega) g F (H - 1) 1 _ (strT (W - 1) 1 ++ bnT1 W H (W + 1) 0) (by omega) (by omega) (by rw [List.length_append]; omega) (scE_tr E2 E3) P3 (fun h4 E4 P4 => ?_)
    refine g_iload_n (i := 3) rfl rfl ?_
    refine g_if_eq 97 rfl rfl (fun c_3 => ?_) (fun c_3 => ?_)
    · skip
      refine g_return rfl rfl ?_
      rw [if_neg (by rw [e32, decide_eq_true_eq]; exact fun z => z c_3), List.append_nil]
      exact ⟨rfl, by simpa only [List.append_assoc] using P4, E4⟩
    · skip
      obtain ⟨B4, fc4, ff4, hS4, -⟩ := id P4
      have F4 := scE_FC E4 F
      refine g_aload_n (i := 0) rfl rfl ?_
      refine g_aload_n (i := 1) rfl rfl ?_
      refine g_virt1 (Qc := fun r h' => r = none ∧ lcP h' W (W * H) ((strT (W - 1) 1 ++ bnT1 W H (W + 1) 0 ++ alT (H - 1) 1) ++ frT1 W H W 1) B S1 S2 ∧ scE h4 h') rfl (by decide) rfl hS4 rfl (Nat.le_of_ble_eq_true rfl) (s_addFrom (d := d - 1) (by omega) F4 g (by simp only [List.length_append]; omega) P4) (fun r h5 hq9 => ?_)
      obtain ⟨rfl, P5, E5⟩ := hq9
      refine g_return rfl rfl ?_
      rw [if_pos (by rw [e32, decide_eq_true_eq]; exact c_3)]
      exact ⟨rfl, by simpa only [List.append_assoc] using P5, scE_tr E4 E5⟩
