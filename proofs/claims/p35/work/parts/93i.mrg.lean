section
/-! ===== choose: the fairest cut ===== -/
def apN (a b : Nat) : Nat := (a - b) + (b - a)
def apW (m : MF) (W n i C : Nat) : Nat := apN (wV m n i (fsS W n C)) (wV m n i (sdS W n C 1))
def chS (ap : Nat → Nat) (C : Nat) : Option (Nat × Nat) → Option (Nat × Nat)
  | none => some (C, ap C)
  | some (b, l) => if ap C < l then some (C, ap C) else some (b, l)
def chF (ap : Nat → Nat) : List Nat → Option (Nat × Nat) → Option (Nat × Nat)
  | [], o => o
  | C :: L, o => chF ap L (chS ap C o)
def chB : Option (Nat × Nat) → Int32
  | none => -1
  | some (b, _) => Int32.ofNat b
def chL (z : Int32) : Option (Nat × Nat) → Int32
  | none => z
  | some (_, l) => Int32.ofNat l
def chX (W n : Nat) : Option (Nat × Nat) → Int64
  | none => Int64.ofNat 0
  | some (b, _) => fsS W n b
/-- what always holds of the best so far -/
def chI (o : Option (Nat × Nat)) : Prop := ∀ b l, o = some (b, l) → l ≤ 6356 ∧ b < 7000 ∧ ¬ b / 1000 = 3
theorem apN_le {a b : Nat} (ha : a ≤ 6356) (hb : b ≤ 6356) : apN a b ≤ 6356 := by
  unfold apN
  omega
theorem chI_S {ap : Nat → Nat} {C : Nat} {o : Option (Nat × Nat)} (h : chI o) (ha : ap C ≤ 6356) (hc : C < 7000 ∧ ¬ C / 1000 = 3) : chI (chS ap C o) := by
  intro b l e
  match o, h, e with
  | none, _, e => cases e; exact ⟨ha, hc.1, hc.2⟩
  | some (b0, l0), h, e =>
    have e : (if ap C < l0 then some (C, ap C) else some (b0, l0)) = some (b, l) := e
    by_cases z : ap C < l0
    · rw [if_pos z] at e; cases e; exact ⟨ha, hc.1, hc.2⟩
    · rw [if_neg z] at e; cases e; exact h _ _ rfl
theorem chI_F {ap : Nat → Nat} : ∀ {L : List Nat} {o : Option (Nat × Nat)}, chI o → (∀ C ∈ L, ap C ≤ 6356 ∧ (C < 7000 ∧ ¬ C / 1000 = 3)) → chI (chF ap L o) := by
  intro L
  induction L with
  | nil => intro o h _; exact h
  | cons C L ih =>
    intro o h hk
    have k := hk C (List.mem_cons_self ..)
    exact ih (chI_S h k.1 k.2) (fun C' h' => hk C' (List.mem_cons_of_mem _ h'))
theorem chF_some {ap : Nat → Nat} : ∀ {L : List Nat} {o : Option (Nat × Nat)}, (∃ p, o = some p) → ∃ p, chF ap L o = some p := by
  intro L
  induction L with
  | nil => intro o h; exact h
  | cons C L ih =>
    intro o h
    obtain ⟨⟨b, l⟩, rfl⟩ := h
    refine ih ?_
    show ∃ p, (if ap C < l then some (C, ap C) else some (b, l)) = some p
    split
    · exact ⟨_, rfl⟩
    · exact ⟨_, rfl⟩
/-- the class's other side -/
theorem sec_sd {W n C : Nat} (hn : n ≤ 64) (hC : ¬ C / 1000 = 3) : stO (fun _ => true) n &&& (fsS W n C ^^^ lM1) = sdS W n C 1 := by
  rw [sd1_of hn hC (inN_all hn)]
  refine bt_ext (fun i hi => ?_)
  unfold sdS
  rw [bt_and, bt_stO _ _ hn, bt_stO _ _ hn, Bool.and_true, ← Bool.and_assoc, Bool.and_self]
theorem abs_of {a b : Nat} (ha : a ≤ 6356) (hb : b ≤ 6356) : (if 0 ≤ Int32.ofNat a - Int32.ofNat b then Int32.ofNat a - Int32.ofNat b else 0 - (Int32.ofNat a - Int32.ofNat b)) = Int32.ofNat (apN a b) := by
  have ea := ofC_toInt (n := a) (by omega)
  have eb := ofC_toInt (n := b) (by omega)
  have es : (Int32.ofNat a - Int32.ofNat b).toInt = (a : Int) - b := by rw [i_sub (by rw [ea, eb]; omega) (by rw [ea, eb]; omega), ea, eb]
  have e0 : (0 : Int32).toInt = 0 := rfl
  have ep := ofC_toInt (n := apN a b) (by unfold apN; omega)
  by_cases z : 0 ≤ Int32.ofNat a - Int32.ofNat b
  · rw [if_pos z]
    rw [i_le, es, e0] at z
    refine Int32.toInt_inj.mp ?_
    rw [es, ep]
    unfold apN
    omega
  · rw [if_neg z]
    rw [i_le, es, e0] at z
    refine Int32.toInt_inj.mp ?_
    rw [i_sub (by rw [es, e0]; omega) (by rw [es, e0]; omega), es, e0, ep]
    unfold apN
    omega
theorem s_ch11_go {d : Nat} {h0 : sHp} {c : CF} {m : MF} {s : Sg} {i : Nat} {L : List Nat} {fc : Nat → Int32} {ff : Nat → Int64} {S1 S2 : Int64} (hd : 4 ≤ d) (g : gdF c s.1 s.2.1) (r : RB c m) (sI : sgI c s) (hi : i < s.2.2) (hk : ∀ C ∈ L, C < 7000 ∧ ¬ C / 1000 = 3) (hl : L.length ≤ 644) (p1 : ∀ j C, L[j]? = some C → fc j = Int32.ofNat C) (p2 : ∀ j C, L[j]? = some C → ff j = fsS s.1 (s.1 * s.2.1) C) : ∀ (R P : List Nat) (o : Option (Nat × Nat)) (B : Nat → Int32) (h : sHp) (o7 o9 : Option Value), L = P ++ R → chI o → FC h 5 c → h[38]? = some (sO B S1 S2) → B 6 = Int32.ofNat L.length → B 0 = chB o → h[39]? = some (.inl (0, 644, .inl fc)) → h[40]? = some (.inl (1, 644, .inr (.inl ff))) → scE h0 h → sGo none 99 d 23 [some (.ref 38), some (.ref 5), some (.int (Int32.ofNat i)), some (.long (chX s.1 (s.1 * s.2.1) o)), none, some (.int (chL (Int32.ofNat 1000000) o)), some (.int (Int32.ofNat P.length)), o7, none, o9] [] h (fun rv h' => rv = some (.long (chX s.1 (s.1 * s.2.1) (chF (apW m s.1 (s.1 * s.2.1) i) R o))) ∧ scE h0 h' ∧ ∃ B', h'[38]? = some (sO B' S1 S2) ∧ B' 0 = chB (chF (apW m s.1 (s.1 * s.2.1) i) R o)) := by
  have hn := gdF_n g
  have n5 := sI.2.2.2.2.2.2.2
  have ei := ofN_toInt (n := i) (by omega)
  have g2 : c.2.1 2 = stO (fun _ => true) (s.1 * s.2.1) := g.2.2.2.2.2.2.1
  have RS := (r.2 s sI).1
  intro R
  induction R with
  | nil =>
    intro P o B h o7 o9 hL hI F hS b6 b0 h39 h40 E
    rw [List.append_nil] at hL
    subst hL
    have el := ofN_toInt (n := L.length) (by omega)
    have e6 : (B 6).toInt = ((L.length : Nat) : Int) := by rw [b6]; exact el
    refine g_iload (i := 6) rfl rfl ?_
    refine g_aload_n (i := 0) rfl rfl ?_
    refine g_getfield (v := .int (B 6)) rfl hS (by decide) rfl ?_
    refine g_icmp_ge 111 rfl rfl (fun _ => ?_) (fun hc => absurd hc (by rw [i_le, e6, el]; omega))
    refine g_lload_n (i := 3) rfl rfl ?_
    refine g_lreturn rfl rfl ?_
    exact ⟨rfl, E, B, hS, b0⟩
  | cons C R ih =>
    intro P o B h o7 o9 hL hI F hS b6 b0 h39 h40 E
    have hlen : L.length = P.length + (R.length + 1) := by rw [hL, List.length_append, List.length_cons]
    have el := ofN_toInt (n := P.length) (by omega)
    have e6 : (B 6).toInt = ((L.length : Nat) : Int) := by rw [b6]; exact ofN_toInt (by omega)
    have hC := hk C (by rw [hL]; exact List.mem_append_right _ (List.mem_cons_self ..))
    have hat : L[P.length]? = some C := by rw [hL, List.getElem?_append_right (Nat.le_refl _), Nat.sub_self]; rfl
    have hff := p2 P.length C hat
    have hfc := p1 P.length C hat
    have hL2 : L = (P ++ [C]) ++ R := by rw [hL, List.append_assoc]; rfl
    have hP1 : (P ++ [C]).length = P.length + 1 := by rw [List.length_append]; rfl
    have wa := wV_le (x := fsS s.1 (s.1 * s.2.1) C) hn.1 RS hi
    have wb := wV_le (x := sdS s.1 (s.1 * s.2.1) C 1) hn.1 RS hi
    have wap : (apW m s.1 (s.1 * s.2.1) i) C ≤ 6356 := apN_le wa wb
    have eap := ofC_toInt (n := (apW m s.1 (s.1 * s.2.1) i) C) (by omega)
    have hI2 := chI_S (ap := (apW m s.1 (s.1 * s.2.1) i)) hI wap hC
    have ez : (Int32.ofNat 1000000).toInt = 1000000 := rfl
    have e2 : c.2.1 2 &&& (fsS s.1 (s.1 * s.2.1) C ^^^ Int64.ofNat 18446744073709551615) = sdS s.1 (s.1 * s.2.1) C 1 := by rw [g2]; exact sec_sd hn.1 hC.2
    rcases o with _ | ⟨b, l⟩
    · show sGo none 99 d 23 [some (.ref 38), some (.ref 5), some (.int (Int32.ofNat i)), some (.long (Int64.ofNat 0)), none, some (.int (Int32.ofNat 1000000)), some (.int (Int32.ofNat P.length)), o7, none, o9] [] h _
      refine g_iload (i := 6) rfl rfl ?_
      refine g_aload_n (i := 0) rfl rfl ?_
      refine g_getfield (v := .int (B 6)) rfl hS (by decide) rfl ?_
      refine g_icmp_ge 111 rfl rfl (fun hc => absurd hc (by rw [i_le, e6, el]; omega)) (fun _ => ?_)
      refine g_aload_n (i := 1) rfl rfl ?_
      refine g_getfield (v := .long (c.2.1 2)) rfl F.1 (by decide) rfl ?_
      refine g_aload_n (i := 0) rfl rfl ?_
      refine g_getfield (v := .ref 40) rfl hS (by decide) rfl ?_
      refine g_iload (i := 6) rfl rfl ?_
      refine g_laload (n := 644) (f := ff) rfl h40 (i_in (by omega) (by omega)) ?_
      rw [i_nat el, hff]
      refine g_ldc2_w (j := 18446744073709551615) rfl ?_
      refine g_lxor rfl ?_
      refine g_land rfl ?_
      rw [e2]
      refine g_lstore (i := 7) (L1 := [some (.ref 38), some (.ref 5), some (.int (Int32.ofNat i)), some (.long (Int64.ofNat 0)), none, some (.int (Int32.ofNat 1000000)), some (.int (Int32.ofNat P.length)), some (.long (sdS s.1 (s.1 * s.2.1) C 1)), none, o9]) rfl (Nat.le_of_ble_eq_true rfl) rfl ?_
      refine g_aload_n (i := 1) rfl rfl ?_
      refine g_iload_n (i := 2) rfl rfl ?_
      refine g_aload_n (i := 0) rfl rfl ?_
      refine g_getfield (v := .ref 40) rfl hS (by decide) rfl ?_
      refine g_iload (i := 6) rfl rfl ?_
      refine g_laload (n := 644) (f := ff) rfl h40 (i_in (by omega) (by omega)) ?_
      rw [i_nat el, hff]
      refine g_virt2 (Qc := fun r h' => h' = h ∧ r = some (.int (Int32.ofNat (wV m (s.1 * s.2.1) i (fsS s.1 (s.1 * s.2.1) C))))) rfl (by decide) rfl F.1 rfl (Nat.le_of_ble_eq_true rfl) (s_worthOf11 (by omega) F g r sI hi) (fun r h hq9 => ?_)
      obtain ⟨rfl, rfl⟩ := hq9
      refine g_aload_n (i := 1) rfl rfl ?_
      refine g_iload_n (i := 2) rfl rfl ?_
      refine g_lload (i := 7) rfl rfl ?_
      refine g_virt2 (Qc := fun r h' => h' = h ∧ r = some (.int (Int32.ofNat (wV m (s.1 * s.2.1) i (sdS s.1 (s.1 * s.2.1) C 1))))) rfl (by decide) rfl F.1 rfl (Nat.le_of_ble_eq_true rfl) (s_worthOf11 (by omega) F g r sI hi) (fun r h hq9 => ?_)
      obtain ⟨rfl, rfl⟩ := hq9
      refine g_isub rfl ?_
      refine g_abs rfl (Nat.le_of_ble_eq_true rfl) ?_
      rw [abs_of wa wb]
      show sGo none 99 _ 73 [some (.ref 38), some (.ref 5), some (.int (Int32.ofNat i)), some (.long (Int64.ofNat 0)), none, some (.int (Int32.ofNat 1000000)), some (.int (Int32.ofNat P.length)), some (.long (sdS s.1 (s.1 * s.2.1) C 1)), none, o9] [.int (Int32.ofNat ((apW m s.1 (s.1 * s.2.1) i) C))] _ _
      refine g_istore (i := 9) (L1 := [some (.ref 38), some (.ref 5), some (.int (Int32.ofNat i)), some (.long (Int64.ofNat 0)), none, some (.int (Int32.ofNat 1000000)), some (.int (Int32.ofNat P.length)), some (.long (sdS s.1 (s.1 * s.2.1) C 1)), none, some (.int (Int32.ofNat ((apW m s.1 (s.1 * s.2.1) i) C)))]) rfl (Nat.le_of_ble_eq_true rfl) rfl ?_
      refine g_iload (i := 9) rfl rfl ?_
      refine g_iload (i := 5) rfl rfl ?_
      refine g_icmp_ge 105 rfl rfl (fun c_1 => ?_) (fun c_1 => ?_)
      · skip
        rw [i_le, eap, ez] at c_1
        refine g_iinc (i := 6) (L1 := [some (.ref 38), some (.ref 5), some (.int (Int32.ofNat i)), some (.long (Int64.ofNat 0)), none, some (.int (Int32.ofNat 1000000)), some (.int ((Int32.ofNat P.length) + Int32.ofInt 1)), some (.long (sdS s.1 (s.1 * s.2.1) C 1)), none, some (.int (Int32.ofNat ((apW m s.1 (s.1 * s.2.1) i) C)))]) rfl rfl rfl ?_
        rw [ofN_add (by omega)]
        refine g_goto 23 rfl rfl ?_
        omega
      · skip
        rw [i_le, eap, ez] at c_1
        refine g_iload (i := 9) rfl rfl ?_
        refine g_istore (i := 5) (L1 := [some (.ref 38), some (.ref 5), some (.int (Int32.ofNat i)), some (.long (Int64.ofNat 0)), none, some (.int (Int32.ofNat ((apW m s.1 (s.1 * s.2.1) i) C))), some (.int (Int32.ofNat P.length)), some (.long (sdS s.1 (s.1 * s.2.1) C 1)), none, some (.int (Int32.ofNat ((apW m s.1 (s.1 * s.2.1) i) C)))]) rfl (Nat.le_of_ble_eq_true rfl) rfl ?_
        refine g_aload_n (i := 0) rfl rfl ?_
        refine g_aload_n (i := 0) rfl rfl ?_
        refine g_getfield (v := .ref 39) rfl hS (by decide) rfl ?_
        refine g_iload (i := 6) rfl rfl ?_
        refine g_iaload (n := 644) (f := fc) rfl h39 (i_in (by omega) (by omega)) ?_
        rw [i_nat el, hfc]
        refine g_putfield (h1 := h.set 38 (sO (upd B 0 (Int32.ofNat C)) S1 S2)) rfl hS (by decide) (Nat.le_of_ble_eq_true rfl) rfl rfl ?_
        have hS1 : (h.set 38 (sO (upd B 0 (Int32.ofNat C)) S1 S2))[38]? = some (sO (upd B 0 (Int32.ofNat C)) S1 S2) := s_set_eq hS
        have F1 := FC_out (q := 38) (x := sO (upd B 0 (Int32.ofNat C)) S1 S2) F (by omega)
        refine g_aload_n (i := 0) rfl rfl ?_
        refine g_getfield (v := .ref 40) rfl hS1 (by decide) rfl ?_
        refine g_iload (i := 6) rfl rfl ?_
        refine g_laload (n := 644) (f := ff) rfl (by rw [s_set_ne (by decide)]; exact h40) (i_in (by omega) (by omega)) ?_
        rw [i_nat el, hff]
        refine g_lstore_n (i := 3) (L1 := [some (.ref 38), some (.ref 5), some (.int (Int32.ofNat i)), some (.long (fsS s.1 (s.1 * s.2.1) C)), none, some (.int (Int32.ofNat ((apW m s.1 (s.1 * s.2.1) i) C))), some (.int (Int32.ofNat P.length)), some (.long (sdS s.1 (s.1 * s.2.1) C 1)), none, some (.int (Int32.ofNat ((apW m s.1 (s.1 * s.2.1) i) C)))]) rfl (Nat.le_of_ble_eq_true rfl) rfl ?_
        refine g_iinc (i := 6) (L1 := [some (.ref 38), some (.ref 5), some (.int (Int32.ofNat i)), some (.long (fsS s.1 (s.1 * s.2.1) C)), none, some (.int (Int32.ofNat ((apW m s.1 (s.1 * s.2.1) i) C))), some (.int ((Int32.ofNat P.length) + Int32.ofInt 1)), some (.long (sdS s.1 (s.1 * s.2.1) C 1)), none, some (.int (Int32.ofNat ((apW m s.1 (s.1 * s.2.1) i) C)))]) rfl rfl rfl ?_
        rw [ofN_add (by omega)]
        refine g_goto 23 rfl rfl ?_
        have key := ih (P ++ [C]) (some (C, (apW m s.1 (s.1 * s.2.1) i) C)) (upd B 0 (Int32.ofNat C)) _ (some (.long (sdS s.1 (s.1 * s.2.1) C 1))) (some (.int (Int32.ofNat ((apW m s.1 (s.1 * s.2.1) i) C)))) hL2 hI2 F1 hS1 ((u_ne (by decide)).trans b6) u_at (by rw [s_set_ne (by decide)]; exact h39) (by rw [s_set_ne (by decide)]; exact h40) (scE_set E (by decide))
        rw [hP1] at key
        exact key
    · have hbl := hI b l rfl
      have ell := ofC_toInt (n := l) (by omega)
      show sGo none 99 d 23 [some (.ref 38), some (.ref 5), some (.int (Int32.ofNat i)), some (.long (fsS s.1 (s.1 * s.2.1) b)), none, some (.int (Int32.ofNat l)), some (.int (Int32.ofNat P.length)), o7, none, o9] [] h _
      refine g_iload (i := 6) rfl rfl ?_
      refine g_aload_n (i := 0) rfl rfl ?_
      refine g_getfield (v := .int (B 6)) rfl hS (by decide) rfl ?_
      refine g_icmp_ge 111 rfl rfl (fun hc => absurd hc (by rw [i_le, e6, el]; omega)) (fun _ => ?_)
      refine g_aload_n (i := 1) rfl rfl ?_
      refine g_getfield (v := .long (c.2.1 2)) rfl F.1 (by decide) rfl ?_
      refine g_aload_n (i := 0) rfl rfl ?_
      refine g_getfield (v := .ref 40) rfl hS (by decide) rfl ?_
      refine g_iload (i := 6) rfl rfl ?_
      refine g_laload (n := 644) (f := ff) rfl h40 (i_in (by omega) (by omega)) ?_
      rw [i_nat el, hff]
      refine g_ldc2_w (j := 18446744073709551615) rfl ?_
      refine g_lxor rfl ?_
      refine g_land rfl ?_
      rw [e2]
      refine g_lstore (i := 7) (L1 := [some (.ref 38), some (.ref 5), some (.int (Int32.ofNat i)), some (.long (fsS s.1 (s.1 * s.2.1) b)), none, some (.int (Int32.ofNat l)), some (.int (Int32.ofNat P.length)), some (.long (sdS s.1 (s.1 * s.2.1) C 1)), none, o9]) rfl (Nat.le_of_ble_eq_true rfl) rfl ?_
      refine g_aload_n (i := 1) rfl rfl ?_
      refine g_iload_n (i := 2) rfl rfl ?_
      refine g_aload_n (i := 0) rfl rfl ?_
      refine g_getfield (v := .ref 40) rfl hS (by decide) rfl ?_
      refine g_iload (i := 6) rfl rfl ?_
      refine g_laload (n := 644) (f := ff) rfl h40 (i_in (by omega) (by omega)) ?_
      rw [i_nat el, hff]
      refine g_virt2 (Qc := fun r h' => h' = h ∧ r = some (.int (Int32.ofNat (wV m (s.1 * s.2.1) i (fsS s.1 (s.1 * s.2.1) C))))) rfl (by decide) rfl F.1 rfl (Nat.le_of_ble_eq_true rfl) (s_worthOf11 (by omega) F g r sI hi) (fun r h hq9 => ?_)
      obtain ⟨rfl, rfl⟩ := hq9
      refine g_aload_n (i := 1) rfl rfl ?_
      refine g_iload_n (i := 2) rfl rfl ?_
      refine g_lload (i := 7) rfl rfl ?_
      refine g_virt2 (Qc := fun r h' => h' = h ∧ r = some (.int (Int32.ofNat (wV m (s.1 * s.2.1) i (sdS s.1 (s.1 * s.2.1) C 1))))) rfl (by decide) rfl F.1 rfl (Nat.le_of_ble_eq_true rfl) (s_worthOf11 (by omega) F g r sI hi) (fun r h hq9 => ?_)
      obtain ⟨rfl, rfl⟩ := hq9
      refine g_isub rfl ?_
      refine g_abs rfl (Nat.le_of_ble_eq_true rfl) ?_
      rw [abs_of wa wb]
      show sGo none 99 _ 73 [some (.ref 38), some (.ref 5), some (.int (Int32.ofNat i)), some (.long (fsS s.1 (s.1 * s.2.1) b)), none, some (.int (Int32.ofNat l)), some (.int (Int32.ofNat P.length)), some (.long (sdS s.1 (s.1 * s.2.1) C 1)), none, o9] [.int (Int32.ofNat ((apW m s.1 (s.1 * s.2.1) i) C))] _ _
      refine g_istore (i := 9) (L1 := [some (.ref 38), some (.ref 5), some (.int (Int32.ofNat i)), some (.long (fsS s.1 (s.1 * s.2.1) b)), none, some (.int (Int32.ofNat l)), some (.int (Int32.ofNat P.length)), some (.long (sdS s.1 (s.1 * s.2.1) C 1)), none, some (.int (Int32.ofNat ((apW m s.1 (s.1 * s.2.1) i) C)))]) rfl (Nat.le_of_ble_eq_true rfl) rfl ?_
      refine g_iload (i := 9) rfl rfl ?_
      refine g_iload (i := 5) rfl rfl ?_
      refine g_icmp_ge 105 rfl rfl (fun c_1 => ?_) (fun c_1 => ?_)
      · skip
        rw [i_le, eap, ell] at c_1
        refine g_iinc (i := 6) (L1 := [some (.ref 38), some (.ref 5), some (.int (Int32.ofNat i)), some (.long (fsS s.1 (s.1 * s.2.1) b)), none, some (.int (Int32.ofNat l)), some (.int ((Int32.ofNat P.length) + Int32.ofInt 1)), some (.long (sdS s.1 (s.1 * s.2.1) C 1)), none, some (.int (Int32.ofNat ((apW m s.1 (s.1 * s.2.1) i) C)))]) rfl rfl rfl ?_
        rw [ofN_add (by omega)]
        refine g_goto 23 rfl rfl ?_
        have eo : chS (apW m s.1 (s.1 * s.2.1) i) C (some (b, l)) = some (b, l) := if_neg (by omega)
        rw [show chF (apW m s.1 (s.1 * s.2.1) i) (C :: R) (some (b, l)) = chF (apW m s.1 (s.1 * s.2.1) i) R (some (b, l)) from congrArg (chF (apW m s.1 (s.1 * s.2.1) i) R) eo]
        have key := ih (P ++ [C]) (some (b, l)) B h (some (.long (sdS s.1 (s.1 * s.2.1) C 1))) (some (.int (Int32.ofNat ((apW m s.1 (s.1 * s.2.1) i) C)))) hL2 hI F hS b6 b0 h39 h40 E
        rw [hP1] at key
        exact key
      · skip
        rw [i_le, eap, ell] at c_1
        refine g_iload (i := 9) rfl rfl ?_
        refine g_istore (i := 5) (L1 := [some (.ref 38), some (.ref 5), some (.int (Int32.ofNat i)), some (.long (fsS s.1 (s.1 * s.2.1) b)), none, some (.int (Int32.ofNat ((apW m s.1 (s.1 * s.2.1) i) C))), some (.int (Int32.ofNat P.length)), some (.long (sdS s.1 (s.1 * s.2.1) C 1)), none, some (.int (Int32.ofNat ((apW m s.1 (s.1 * s.2.1) i) C)))]) rfl (Nat.le_of_ble_eq_true rfl) rfl ?_
        refine g_aload_n (i := 0) rfl rfl ?_
        refine g_aload_n (i := 0) rfl rfl ?_
        refine g_getfield (v := .ref 39) rfl hS (by decide) rfl ?_
        refine g_iload (i := 6) rfl rfl ?_
        refine g_iaload (n := 644) (f := fc) rfl h39 (i_in (by omega) (by omega)) ?_
        rw [i_nat el, hfc]
        refine g_putfield (h1 := h.set 38 (sO (upd B 0 (Int32.ofNat C)) S1 S2)) rfl hS (by decide) (Nat.le_of_ble_eq_true rfl) rfl rfl ?_
        have hS1 : (h.set 38 (sO (upd B 0 (Int32.ofNat C)) S1 S2))[38]? = some (sO (upd B 0 (Int32.ofNat C)) S1 S2) := s_set_eq hS
        have F1 := FC_out (q := 38) (x := sO (upd B 0 (Int32.ofNat C)) S1 S2) F (by omega)
        refine g_aload_n (i := 0) rfl rfl ?_
        refine g_getfield (v := .ref 40) rfl hS1 (by decide) rfl ?_
        refine g_iload (i := 6) rfl rfl ?_
        refine g_laload (n := 644) (f := ff) rfl (by rw [s_set_ne (by decide)]; exact h40) (i_in (by omega) (by omega)) ?_
        rw [i_nat el, hff]
        refine g_lstore_n (i := 3) (L1 := [some (.ref 38), some (.ref 5), some (.int (Int32.ofNat i)), some (.long (fsS s.1 (s.1 * s.2.1) C)), none, some (.int (Int32.ofNat ((apW m s.1 (s.1 * s.2.1) i) C))), some (.int (Int32.ofNat P.length)), some (.long (sdS s.1 (s.1 * s.2.1) C 1)), none, some (.int (Int32.ofNat ((apW m s.1 (s.1 * s.2.1) i) C)))]) rfl (Nat.le_of_ble_eq_true rfl) rfl ?_
        refine g_iinc (i := 6) (L1 := [some (.ref 38), some (.ref 5), some (.int (Int32.ofNat i)), some (.long (fsS s.1 (s.1 * s.2.1) C)), none, some (.int (Int32.ofNat ((apW m s.1 (s.1 * s.2.1) i) C))), some (.int ((Int32.ofNat P.length) + Int32.ofInt 1)), some (.long (sdS s.1 (s.1 * s.2.1) C 1)), none, some (.int (Int32.ofNat ((apW m s.1 (s.1 * s.2.1) i) C)))]) rfl rfl rfl ?_
        rw [ofN_add (by omega)]
        refine g_goto 23 rfl rfl ?_
        have eo : chS (apW m s.1 (s.1 * s.2.1) i) C (some (b, l)) = some (C, (apW m s.1 (s.1 * s.2.1) i) C) := if_pos (by omega)
        rw [show chF (apW m s.1 (s.1 * s.2.1) i) (C :: R) (some (b, l)) = chF (apW m s.1 (s.1 * s.2.1) i) R (some (C, (apW m s.1 (s.1 * s.2.1) i) C)) from congrArg (chF (apW m s.1 (s.1 * s.2.1) i) R) eo]
        rw [eo] at hI2
        have key := ih (P ++ [C]) (some (C, (apW m s.1 (s.1 * s.2.1) i) C)) (upd B 0 (Int32.ofNat C)) _ (some (.long (sdS s.1 (s.1 * s.2.1) C 1))) (some (.int (Int32.ofNat ((apW m s.1 (s.1 * s.2.1) i) C)))) hL2 hI2 F1 hS1 ((u_ne (by decide)).trans b6) u_at (by rw [s_set_ne (by decide)]; exact h39) (by rw [s_set_ne (by decide)]; exact h40) (scE_set E (by decide))
        rw [hP1] at key
        exact key
theorem s_ch12_go {d : Nat} {h : sHp} {c : CF} {m : MF} {s : Sg} {i : Nat} {L : List Nat} {fc : Nat → Int32} {y w : Int32} {fin : Option (Nat × Nat)} {Q : Option Value → sHp → Prop} (hd : 4 ≤ d) (g : gdF c s.1 s.2.1) (M : MC h m) (gM : gdM m.1 s.1 s.2.1) (r : RB c m) (sI : sgI c s) (hi : i < s.2.2) (hk : ∀ C ∈ L, C < 7000 ∧ ¬ C / 1000 = 3) (hl : L.length ≤ 644) (j31 : m.1 31 = Int32.ofNat L.length) (h76 : h[76]? = some (.inl (0, 1000, .inl fc))) (p1 : ∀ j C, L[j]? = some C → fc j = Int32.ofNat C) (hQ : ∀ o7, sGo none 237 d 161 [some (.ref 60), some (.int (Int32.ofNat i)), some (.int y), some (.int w), some (.int (chB fin)), some (.int (chL 0 fin)), some (.int (Int32.ofNat L.length)), o7] [] h Q) : ∀ (R P : List Nat) (o : Option (Nat × Nat)) (o7 : Option Value), L = P ++ R → chI o → chF (apW m s.1 (s.1 * s.2.1) i) R o = fin → sGo none 237 d 65 [some (.ref 60), some (.int (Int32.ofNat i)), some (.int y), some (.int w), some (.int (chB o)), some (.int (chL 0 o)), some (.int (Int32.ofNat P.length)), o7] [] h Q := by
  have hn := gdF_n g
  have n5 := sI.2.2.2.2.2.2.2
  have RS := (r.2 s sI).1
  intro R
  induction R with
  | nil =>
    intro P o o7 hL hI hF
    rw [List.append_nil] at hL
    subst hL
    have el := ofN_toInt (n := L.length) (by omega)
    have e6 : (m.1 31).toInt = ((L.length : Nat) : Int) := by rw [j31]; exact el
    have hF : o = fin := hF
    subst hF
    refine g_iload (i := 6) rfl rfl ?_
    refine g_aload_n (i := 0) rfl rfl ?_
    refine g_getfield (v := .int (m.1 31)) rfl M.1 (by decide) rfl ?_
    refine g_icmp_ge 161 rfl rfl (fun _ => ?_) (fun hc => absurd hc (by rw [i_le, e6, el]; omega))
    exact hQ _
  | cons C R ih =>
    intro P o o7 hL hI hF
    have hlen : L.length = P.length + (R.length + 1) := by rw [hL, List.length_append, List.length_cons]
    have el := ofN_toInt (n := P.length) (by omega)
    have e6 : (m.1 31).toInt = ((L.length : Nat) : Int) := by rw [j31]; exact ofN_toInt (by omega)
    have hC := hk C (by rw [hL]; exact List.mem_append_right _ (List.mem_cons_self ..))
    have hat : L[P.length]? = some C := by rw [hL, List.getElem?_append_right (Nat.le_refl _), Nat.sub_self]; rfl
    have hfc := p1 P.length C hat
    have hcx : (Int32.ofNat C).toInt = ((C : Nat) : Int) := ofC_toInt (by omega)
    have hL2 : L = (P ++ [C]) ++ R := by rw [hL, List.append_assoc]; rfl
    have hP1 : (P ++ [C]).length = P.length + 1 := by rw [List.length_append]; rfl
    have wa := wV_le (x := fsS s.1 (s.1 * s.2.1) C) hn.1 RS hi
    have wb := wV_le (x := sdS s.1 (s.1 * s.2.1) C 1) hn.1 RS hi
    have ea := ofC_toInt (n := wV m (s.1 * s.2.1) i (fsS s.1 (s.1 * s.2.1) C)) (by omega)
    have eb := ofC_toInt (n := wV m (s.1 * s.2.1) i (sdS s.1 (s.1 * s.2.1) C 1)) (by omega)
    have wap : (apW m s.1 (s.1 * s.2.1) i) C ≤ 6356 := apN_le wa wb
    have eap := ofC_toInt (n := (apW m s.1 (s.1 * s.2.1) i) C) (by omega)
    have hI2 := chI_S (ap := (apW m s.1 (s.1 * s.2.1) i)) hI wap hC
    have ez : (0 : Int32).toInt = 0 := rfl
    have sd0 : ∀ {d : Nat}, 2 ≤ d → sDo d 187 [.ref 60, .int (Int32.ofNat C), .int (Int32.ofInt 0)] h (fun r h' => h' = h ∧ r = some (.long (fsS s.1 (s.1 * s.2.1) C))) := fun hd => by
      rw [sdS_0 hn.1]
      exact s_sideOf12 (side := Int32.ofInt 0) hd M.1 gM hcx hC.1
    have sd1 : ∀ {d : Nat}, 2 ≤ d → sDo d 187 [.ref 60, .int (Int32.ofNat C), .int (Int32.ofInt 1)] h (fun r h' => h' = h ∧ r = some (.long (sdS s.1 (s.1 * s.2.1) C 1))) := fun hd => s_sideOf12 (side := Int32.ofInt 1) hd M.1 gM hcx hC.1
    rcases o with _ | ⟨b, l⟩
    · show sGo none 237 d 65 [some (.ref 60), some (.int (Int32.ofNat i)), some (.int y), some (.int w), some (.int (-1)), some (.int 0), some (.int (Int32.ofNat P.length)), o7] [] h Q
      refine g_iload (i := 6) rfl rfl ?_
      refine g_aload_n (i := 0) rfl rfl ?_
      refine g_getfield (v := .int (m.1 31)) rfl M.1 (by decide) rfl ?_
      refine g_icmp_ge 161 rfl rfl (fun hc => absurd hc (by rw [i_le, e6, el]; omega)) (fun _ => ?_)
      refine g_aload_n (i := 0) rfl rfl ?_
      refine g_iload_n (i := 1) rfl rfl ?_
      refine g_aload_n (i := 0) rfl rfl ?_
      refine g_aload_n (i := 0) rfl rfl ?_
      refine g_getfield (v := .ref 76) rfl M.1 (by decide) rfl ?_
      refine g_iload (i := 6) rfl rfl ?_
      refine g_iaload (n := 1000) (f := fc) rfl h76 (i_in (by omega) (by omega)) ?_
      rw [i_nat el, hfc]
      refine g_iconst (n := 0) rfl ?_
      refine g_virt2 (Qc := fun r h' => h' = h ∧ r = some (.long (fsS s.1 (s.1 * s.2.1) C))) rfl (by decide) rfl M.1 rfl (Nat.le_of_ble_eq_true rfl) (sd0 (by omega)) (fun r h hq9 => ?_)
      obtain ⟨rfl, rfl⟩ := hq9
      refine g_virt2 (Qc := fun r h' => h' = h ∧ r = some (.int (Int32.ofNat (wV m (s.1 * s.2.1) i (fsS s.1 (s.1 * s.2.1) C))))) rfl (by decide) rfl M.1 rfl (Nat.le_of_ble_eq_true rfl) (s_worthOf12 (by omega) M g gM r sI hi) (fun r h hq9 => ?_)
      obtain ⟨rfl, rfl⟩ := hq9
      refine g_aload_n (i := 0) rfl rfl ?_
      refine g_iload_n (i := 1) rfl rfl ?_
      refine g_aload_n (i := 0) rfl rfl ?_
      refine g_aload_n (i := 0) rfl rfl ?_
      refine g_getfield (v := .ref 76) rfl M.1 (by decide) rfl ?_
      refine g_iload (i := 6) rfl rfl ?_
      refine g_iaload (n := 1000) (f := fc) rfl h76 (i_in (by omega) (by omega)) ?_
      rw [i_nat el, hfc]
      refine g_iconst (n := 1) rfl ?_
      refine g_virt2 (Qc := fun r h' => h' = h ∧ r = some (.long (sdS s.1 (s.1 * s.2.1) C 1))) rfl (by decide) rfl M.1 rfl (Nat.le_of_ble_eq_true rfl) (sd1 (by omega)) (fun r h hq9 => ?_)
      obtain ⟨rfl, rfl⟩ := hq9
      refine g_virt2 (Qc := fun r h' => h' = h ∧ r = some (.int (Int32.ofNat (wV m (s.1 * s.2.1) i (sdS s.1 (s.1 * s.2.1) C 1))))) rfl (by decide) rfl M.1 rfl (Nat.le_of_ble_eq_true rfl) (s_worthOf12 (by omega) M g gM r sI hi) (fun r h hq9 => ?_)
      obtain ⟨rfl, rfl⟩ := hq9
      refine g_isub rfl ?_
      have t_1 : ((Int32.ofNat (wV m (s.1 * s.2.1) i (fsS s.1 (s.1 * s.2.1) C))) - (Int32.ofNat (wV m (s.1 * s.2.1) i (sdS s.1 (s.1 * s.2.1) C 1)))).toInt = ((wV m (s.1 * s.2.1) i (fsS s.1 (s.1 * s.2.1) C) : Nat) : Int) - ((wV m (s.1 * s.2.1) i (sdS s.1 (s.1 * s.2.1) C 1) : Nat) : Int) := by rw [i_sub (by rw [ea, eb]; omega) (by rw [ea, eb]; omega), ea, eb]
      refine g_istore (i := 7) (L1 := [some (.ref 60), some (.int (Int32.ofNat i)), some (.int y), some (.int w), some (.int (-1)), some (.int 0), some (.int (Int32.ofNat P.length)), some (.int ((Int32.ofNat (wV m (s.1 * s.2.1) i (fsS s.1 (s.1 * s.2.1) C))) - (Int32.ofNat (wV m (s.1 * s.2.1) i (sdS s.1 (s.1 * s.2.1) C 1)))))]) rfl (Nat.le_of_ble_eq_true rfl) rfl ?_
      refine g_iload (i := 7) rfl rfl ?_
      have k_3 : (0 : Int32).toInt = 0 := rfl
      refine g_if_ge 122 rfl rfl (fun c_2 => ?_) (fun c_2 => ?_)
      · skip
        rw [i_le, t_1, k_3] at c_2
        refine g_iload (i := 7) rfl rfl ?_
        refine g_istore (i := 7) (L1 := [some (.ref 60), some (.int (Int32.ofNat i)), some (.int y), some (.int w), some (.int (-1)), some (.int 0), some (.int (Int32.ofNat P.length)), some (.int ((Int32.ofNat (wV m (s.1 * s.2.1) i (fsS s.1 (s.1 * s.2.1) C))) - (Int32.ofNat (wV m (s.1 * s.2.1) i (sdS s.1 (s.1 * s.2.1) C 1)))))]) rfl (Nat.le_of_ble_eq_true rfl) rfl ?_
        have ev : ((Int32.ofNat (wV m (s.1 * s.2.1) i (fsS s.1 (s.1 * s.2.1) C))) - (Int32.ofNat (wV m (s.1 * s.2.1) i (sdS s.1 (s.1 * s.2.1) C 1)))) = Int32.ofNat ((apW m s.1 (s.1 * s.2.1) i) C) := Int32.toInt_inj.mp (by
          rw [t_1, eap]
          show _ = ((apN (wV m (s.1 * s.2.1) i (fsS s.1 (s.1 * s.2.1) C)) (wV m (s.1 * s.2.1) i (sdS s.1 (s.1 * s.2.1) C 1)) : Nat) : Int)
          unfold apN
          omega)
        rw [ev]
        refine g_iload (i := 4) rfl rfl ?_
        refine g_iconst (n := (-1)) rfl ?_
        refine g_icmp_eq 142 rfl rfl (fun _ => ?_) (fun hc => absurd hc (by exact fun z => z rfl))
        refine g_aload_n (i := 0) rfl rfl ?_
        refine g_getfield (v := .ref 76) rfl M.1 (by decide) rfl ?_
        refine g_iload (i := 6) rfl rfl ?_
        refine g_iaload (n := 1000) (f := fc) rfl h76 (i_in (by omega) (by omega)) ?_
        rw [i_nat el, hfc]
        refine g_istore (i := 4) (L1 := [some (.ref 60), some (.int (Int32.ofNat i)), some (.int y), some (.int w), some (.int (Int32.ofNat C)), some (.int 0), some (.int (Int32.ofNat P.length)), some (.int (Int32.ofNat ((apW m s.1 (s.1 * s.2.1) i) C)))]) rfl (Nat.le_of_ble_eq_true rfl) rfl ?_
        refine g_iload (i := 7) rfl rfl ?_
        refine g_istore (i := 5) (L1 := [some (.ref 60), some (.int (Int32.ofNat i)), some (.int y), some (.int w), some (.int (Int32.ofNat C)), some (.int (Int32.ofNat ((apW m s.1 (s.1 * s.2.1) i) C))), some (.int (Int32.ofNat P.length)), some (.int (Int32.ofNat ((apW m s.1 (s.1 * s.2.1) i) C)))]) rfl (Nat.le_of_ble_eq_true rfl) rfl ?_
        refine g_iinc (i := 6) (L1 := [some (.ref 60), some (.int (Int32.ofNat i)), some (.int y), some (.int w), some (.int (Int32.ofNat C)), some (.int (Int32.ofNat ((apW m s.1 (s.1 * s.2.1) i) C))), some (.int ((Int32.ofNat P.length) + Int32.ofInt 1)), some (.int (Int32.ofNat ((apW m s.1 (s.1 * s.2.1) i) C)))]) rfl rfl rfl ?_
        rw [ofN_add (by omega)]
        refine g_goto 65 rfl rfl ?_
        have key := ih (P ++ [C]) (some (C, (apW m s.1 (s.1 * s.2.1) i) C)) (some (.int (Int32.ofNat ((apW m s.1 (s.1 * s.2.1) i) C)))) hL2 hI2 hF
        rw [hP1] at key
        exact key
      · skip
        rw [i_le, t_1, k_3] at c_2
        refine g_iload (i := 7) rfl rfl ?_
        refine g_ineg rfl ?_
        have t_4 : ((-((Int32.ofNat (wV m (s.1 * s.2.1) i (fsS s.1 (s.1 * s.2.1) C))) - (Int32.ofNat (wV m (s.1 * s.2.1) i (sdS s.1 (s.1 * s.2.1) C 1)))))).toInt = -(((wV m (s.1 * s.2.1) i (fsS s.1 (s.1 * s.2.1) C) : Nat) : Int) - ((wV m (s.1 * s.2.1) i (sdS s.1 (s.1 * s.2.1) C 1) : Nat) : Int)) := by rw [i_neg (by rw [t_1]; omega)]; rw [t_1]
        refine g_goto 124 rfl rfl ?_
        refine g_istore (i := 7) (L1 := [some (.ref 60), some (.int (Int32.ofNat i)), some (.int y), some (.int w), some (.int (-1)), some (.int 0), some (.int (Int32.ofNat P.length)), some (.int (-((Int32.ofNat (wV m (s.1 * s.2.1) i (fsS s.1 (s.1 * s.2.1) C))) - (Int32.ofNat (wV m (s.1 * s.2.1) i (sdS s.1 (s.1 * s.2.1) C 1))))))]) rfl (Nat.le_of_ble_eq_true rfl) rfl ?_
        have ev : (-((Int32.ofNat (wV m (s.1 * s.2.1) i (fsS s.1 (s.1 * s.2.1) C))) - (Int32.ofNat (wV m (s.1 * s.2.1) i (sdS s.1 (s.1 * s.2.1) C 1))))) = Int32.ofNat ((apW m s.1 (s.1 * s.2.1) i) C) := Int32.toInt_inj.mp (by
          rw [t_4, eap]
          show _ = ((apN (wV m (s.1 * s.2.1) i (fsS s.1 (s.1 * s.2.1) C)) (wV m (s.1 * s.2.1) i (sdS s.1 (s.1 * s.2.1) C 1)) : Nat) : Int)
          unfold apN
          omega)
        rw [ev]
        refine g_iload (i := 4) rfl rfl ?_
        refine g_iconst (n := (-1)) rfl ?_
        refine g_icmp_eq 142 rfl rfl (fun _ => ?_) (fun hc => absurd hc (by exact fun z => z rfl))
        refine g_aload_n (i := 0) rfl rfl ?_
        refine g_getfield (v := .ref 76) rfl M.1 (by decide) rfl ?_
        refine g_iload (i := 6) rfl rfl ?_
        refine g_iaload (n := 1000) (f := fc) rfl h76 (i_in (by omega) (by omega)) ?_
        rw [i_nat el, hfc]
        refine g_istore (i := 4) (L1 := [some (.ref 60), some (.int (Int32.ofNat i)), some (.int y), some (.int w), some (.int (Int32.ofNat C)), some (.int 0), some (.int (Int32.ofNat P.length)), some (.int (Int32.ofNat ((apW m s.1 (s.1 * s.2.1) i) C)))]) rfl (Nat.le_of_ble_eq_true rfl) rfl ?_
        refine g_iload (i := 7) rfl rfl ?_
        refine g_istore (i := 5) (L1 := [some (.ref 60), some (.int (Int32.ofNat i)), some (.int y), some (.int w), some (.int (Int32.ofNat C)), some (.int (Int32.ofNat ((apW m s.1 (s.1 * s.2.1) i) C))), some (.int (Int32.ofNat P.length)), some (.int (Int32.ofNat ((apW m s.1 (s.1 * s.2.1) i) C)))]) rfl (Nat.le_of_ble_eq_true rfl) rfl ?_
        refine g_iinc (i := 6) (L1 := [some (.ref 60), some (.int (Int32.ofNat i)), some (.int y), some (.int w), some (.int (Int32.ofNat C)), some (.int (Int32.ofNat ((apW m s.1 (s.1 * s.2.1) i) C))), some (.int ((Int32.ofNat P.length) + Int32.ofInt 1)), some (.int (Int32.ofNat ((apW m s.1 (s.1 * s.2.1) i) C)))]) rfl rfl rfl ?_
        rw [ofN_add (by omega)]
        refine g_goto 65 rfl rfl ?_
        have key := ih (P ++ [C]) (some (C, (apW m s.1 (s.1 * s.2.1) i) C)) (some (.int (Int32.ofNat ((apW m s.1 (s.1 * s.2.1) i) C)))) hL2 hI2 hF
        rw [hP1] at key
        exact key
    · have hbl := hI b l rfl
      have ell := ofC_toInt (n := l) (by omega)
      have ebb := ofC_toInt (n := b) (by omega)
      show sGo none 237 d 65 [some (.ref 60), some (.int (Int32.ofNat i)), some (.int y), some (.int w), some (.int (Int32.ofNat b)), some (.int (Int32.ofNat l)), some (.int (Int32.ofNat P.length)), o7] [] h Q
      refine g_iload (i := 6) rfl rfl ?_
      refine g_aload_n (i := 0) rfl rfl ?_
      refine g_getfield (v := .int (m.1 31)) rfl M.1 (by decide) rfl ?_
      refine g_icmp_ge 161 rfl rfl (fun hc => absurd hc (by rw [i_le, e6, el]; omega)) (fun _ => ?_)
      refine g_aload_n (i := 0) rfl rfl ?_
      refine g_iload_n (i := 1) rfl rfl ?_
      refine g_aload_n (i := 0) rfl rfl ?_
      refine g_aload_n (i := 0) rfl rfl ?_
      refine g_getfield (v := .ref 76) rfl M.1 (by decide) rfl ?_
      refine g_iload (i := 6) rfl rfl ?_
      refine g_iaload (n := 1000) (f := fc) rfl h76 (i_in (by omega) (by omega)) ?_
      rw [i_nat el, hfc]
      refine g_iconst (n := 0) rfl ?_
      refine g_virt2 (Qc := fun r h' => h' = h ∧ r = some (.long (fsS s.1 (s.1 * s.2.1) C))) rfl (by decide) rfl M.1 rfl (Nat.le_of_ble_eq_true rfl) (sd0 (by omega)) (fun r h hq9 => ?_)
      obtain ⟨rfl, rfl⟩ := hq9
      refine g_virt2 (Qc := fun r h' => h' = h ∧ r = some (.int (Int32.ofNat (wV m (s.1 * s.2.1) i (fsS s.1 (s.1 * s.2.1) C))))) rfl (by decide) rfl M.1 rfl (Nat.le_of_ble_eq_true rfl) (s_worthOf12 (by omega) M g gM r sI hi) (fun r h hq9 => ?_)
      obtain ⟨rfl, rfl⟩ := hq9
      refine g_aload_n (i := 0) rfl rfl ?_
      refine g_iload_n (i := 1) rfl rfl ?_
      refine g_aload_n (i := 0) rfl rfl ?_
      refine g_aload_n (i := 0) rfl rfl ?_
      refine g_getfield (v := .ref 76) rfl M.1 (by decide) rfl ?_
      refine g_iload (i := 6) rfl rfl ?_
      refine g_iaload (n := 1000) (f := fc) rfl h76 (i_in (by omega) (by omega)) ?_
      rw [i_nat el, hfc]
      refine g_iconst (n := 1) rfl ?_
      refine g_virt2 (Qc := fun r h' => h' = h ∧ r = some (.long (sdS s.1 (s.1 * s.2.1) C 1))) rfl (by decide) rfl M.1 rfl (Nat.le_of_ble_eq_true rfl) (sd1 (by omega)) (fun r h hq9 => ?_)
      obtain ⟨rfl, rfl⟩ := hq9
      refine g_virt2 (Qc := fun r h' => h' = h ∧ r = some (.int (Int32.ofNat (wV m (s.1 * s.2.1) i (sdS s.1 (s.1 * s.2.1) C 1))))) rfl (by decide) rfl M.1 rfl (Nat.le_of_ble_eq_true rfl) (s_worthOf12 (by omega) M g gM r sI hi) (fun r h hq9 => ?_)
      obtain ⟨rfl, rfl⟩ := hq9
      refine g_isub rfl ?_
      have t_1 : ((Int32.ofNat (wV m (s.1 * s.2.1) i (fsS s.1 (s.1 * s.2.1) C))) - (Int32.ofNat (wV m (s.1 * s.2.1) i (sdS s.1 (s.1 * s.2.1) C 1)))).toInt = ((wV m (s.1 * s.2.1) i (fsS s.1 (s.1 * s.2.1) C) : Nat) : Int) - ((wV m (s.1 * s.2.1) i (sdS s.1 (s.1 * s.2.1) C 1) : Nat) : Int) := by rw [i_sub (by rw [ea, eb]; omega) (by rw [ea, eb]; omega), ea, eb]
      refine g_istore (i := 7) (L1 := [some (.ref 60), some (.int (Int32.ofNat i)), some (.int y), some (.int w), some (.int (Int32.ofNat b)), some (.int (Int32.ofNat l)), some (.int (Int32.ofNat P.length)), some (.int ((Int32.ofNat (wV m (s.1 * s.2.1) i (fsS s.1 (s.1 * s.2.1) C))) - (Int32.ofNat (wV m (s.1 * s.2.1) i (sdS s.1 (s.1 * s.2.1) C 1)))))]) rfl (Nat.le_of_ble_eq_true rfl) rfl ?_
      refine g_iload (i := 7) rfl rfl ?_
      have k_3 : (0 : Int32).toInt = 0 := rfl
      refine g_if_ge 122 rfl rfl (fun c_2 => ?_) (fun c_2 => ?_)
      · skip
        rw [i_le, t_1, k_3] at c_2
        refine g_iload (i := 7) rfl rfl ?_
        refine g_istore (i := 7) (L1 := [some (.ref 60), some (.int (Int32.ofNat i)), some (.int y), some (.int w), some (.int (Int32.ofNat b)), some (.int (Int32.ofNat l)), some (.int (Int32.ofNat P.length)), some (.int ((Int32.ofNat (wV m (s.1 * s.2.1) i (fsS s.1 (s.1 * s.2.1) C))) - (Int32.ofNat (wV m (s.1 * s.2.1) i (sdS s.1 (s.1 * s.2.1) C 1)))))]) rfl (Nat.le_of_ble_eq_true rfl) rfl ?_
        have ev : ((Int32.ofNat (wV m (s.1 * s.2.1) i (fsS s.1 (s.1 * s.2.1) C))) - (Int32.ofNat (wV m (s.1 * s.2.1) i (sdS s.1 (s.1 * s.2.1) C 1)))) = Int32.ofNat ((apW m s.1 (s.1 * s.2.1) i) C) := Int32.toInt_inj.mp (by
          rw [t_1, eap]
          show _ = ((apN (wV m (s.1 * s.2.1) i (fsS s.1 (s.1 * s.2.1) C)) (wV m (s.1 * s.2.1) i (sdS s.1 (s.1 * s.2.1) C 1)) : Nat) : Int)
          unfold apN
          omega)
        rw [ev]
        refine g_iload (i := 4) rfl rfl ?_
        refine g_iconst (n := (-1)) rfl ?_
        refine g_icmp_eq 142 rfl rfl (fun hc => absurd hc (by intro z; have z := congrArg Int32.toInt z; rw [ebb] at z; have e1 : (Int32.ofInt (-1)).toInt = -1 := rfl; omega)) (fun _ => ?_)
        refine g_iload (i := 7) rfl rfl ?_
        refine g_iload (i := 5) rfl rfl ?_
        refine g_icmp_lt 142 rfl rfl (fun c_4 => ?_) (fun c_4 => ?_)
        · skip
          rw [i_lt, eap, ell] at c_4
          refine g_aload_n (i := 0) rfl rfl ?_
          refine g_getfield (v := .ref 76) rfl M.1 (by decide) rfl ?_
          refine g_iload (i := 6) rfl rfl ?_
          refine g_iaload (n := 1000) (f := fc) rfl h76 (i_in (by omega) (by omega)) ?_
          rw [i_nat el, hfc]
          refine g_istore (i := 4) (L1 := [some (.ref 60), some (.int (Int32.ofNat i)), some (.int y), some (.int w), some (.int (Int32.ofNat C)), some (.int (Int32.ofNat l)), some (.int (Int32.ofNat P.length)), some (.int (Int32.ofNat ((apW m s.1 (s.1 * s.2.1) i) C)))]) rfl (Nat.le_of_ble_eq_true rfl) rfl ?_
          refine g_iload (i := 7) rfl rfl ?_
          refine g_istore (i := 5) (L1 := [some (.ref 60), some (.int (Int32.ofNat i)), some (.int y), some (.int w), some (.int (Int32.ofNat C)), some (.int (Int32.ofNat ((apW m s.1 (s.1 * s.2.1) i) C))), some (.int (Int32.ofNat P.length)), some (.int (Int32.ofNat ((apW m s.1 (s.1 * s.2.1) i) C)))]) rfl (Nat.le_of_ble_eq_true rfl) rfl ?_
          refine g_iinc (i := 6) (L1 := [some (.ref 60), some (.int (Int32.ofNat i)), some (.int y), some (.int w), some (.int (Int32.ofNat C)), some (.int (Int32.ofNat ((apW m s.1 (s.1 * s.2.1) i) C))), some (.int ((Int32.ofNat P.length) + Int32.ofInt 1)), some (.int (Int32.ofNat ((apW m s.1 (s.1 * s.2.1) i) C)))]) rfl rfl rfl ?_
          rw [ofN_add (by omega)]
          refine g_goto 65 rfl rfl ?_
          have eo : chS (apW m s.1 (s.1 * s.2.1) i) C (some (b, l)) = some (C, (apW m s.1 (s.1 * s.2.1) i) C) := if_pos (by omega)
          rw [eo] at hI2
          have hF : chF (apW m s.1 (s.1 * s.2.1) i) R (some (C, (apW m s.1 (s.1 * s.2.1) i) C)) = fin := (congrArg (chF (apW m s.1 (s.1 * s.2.1) i) R) eo).symm.trans hF
          have key := ih (P ++ [C]) (some (C, (apW m s.1 (s.1 * s.2.1) i) C)) (some (.int (Int32.ofNat ((apW m s.1 (s.1 * s.2.1) i) C)))) hL2 hI2 hF
          rw [hP1] at key
          exact key
        · skip
          rw [i_lt, eap, ell] at c_4
          refine g_goto 155 rfl rfl ?_
          refine g_iinc (i := 6) (L1 := [some (.ref 60), some (.int (Int32.ofNat i)), some (.int y), some (.int w), some (.int (Int32.ofNat b)), some (.int (Int32.ofNat l)), some (.int ((Int32.ofNat P.length) + Int32.ofInt 1)), some (.int (Int32.ofNat ((apW m s.1 (s.1 * s.2.1) i) C)))]) rfl rfl rfl ?_
          rw [ofN_add (by omega)]
          refine g_goto 65 rfl rfl ?_
          have eo : chS (apW m s.1 (s.1 * s.2.1) i) C (some (b, l)) = some (b, l) := if_neg (by omega)
          have hF : chF (apW m s.1 (s.1 * s.2.1) i) R (some (b, l)) = fin := (congrArg (chF (apW m s.1 (s.1 * s.2.1) i) R) eo).symm.trans hF
          have key := ih (P ++ [C]) (some (b, l)) (some (.int (Int32.ofNat ((apW m s.1 (s.1 * s.2.1) i) C)))) hL2 hI hF
          rw [hP1] at key
          exact key
      · skip
        rw [i_le, t_1, k_3] at c_2
        refine g_iload (i := 7) rfl rfl ?_
        refine g_ineg rfl ?_
        have t_5 : ((-((Int32.ofNat (wV m (s.1 * s.2.1) i (fsS s.1 (s.1 * s.2.1) C))) - (Int32.ofNat (wV m (s.1 * s.2.1) i (sdS s.1 (s.1 * s.2.1) C 1)))))).toInt = -(((wV m (s.1 * s.2.1) i (fsS s.1 (s.1 * s.2.1) C) : Nat) : Int) - ((wV m (s.1 * s.2.1) i (sdS s.1 (s.1 * s.2.1) C 1) : Nat) : Int)) := by rw [i_neg (by rw [t_1]; omega)]; rw [t_1]
        refine g_goto 124 rfl rfl ?_
        refine g_istore (i := 7) (L1 := [some (.ref 60), some (.int (Int32.ofNat i)), some (.int y), some (.int w), some (.int (Int32.ofNat b)), some (.int (Int32.ofNat l)), some (.int (Int32.ofNat P.length)), some (.int (-((Int32.ofNat (wV m (s.1 * s.2.1) i (fsS s.1 (s.1 * s.2.1) C))) - (Int32.ofNat (wV m (s.1 * s.2.1) i (sdS s.1 (s.1 * s.2.1) C 1))))))]) rfl (Nat.le_of_ble_eq_true rfl) rfl ?_
        have ev : (-((Int32.ofNat (wV m (s.1 * s.2.1) i (fsS s.1 (s.1 * s.2.1) C))) - (Int32.ofNat (wV m (s.1 * s.2.1) i (sdS s.1 (s.1 * s.2.1) C 1))))) = Int32.ofNat ((apW m s.1 (s.1 * s.2.1) i) C) := Int32.toInt_inj.mp (by
          rw [t_5, eap]
          show _ = ((apN (wV m (s.1 * s.2.1) i (fsS s.1 (s.1 * s.2.1) C)) (wV m (s.1 * s.2.1) i (sdS s.1 (s.1 * s.2.1) C 1)) : Nat) : Int)
          unfold apN
          omega)
        rw [ev]
        refine g_iload (i := 4) rfl rfl ?_
        refine g_iconst (n := (-1)) rfl ?_
        refine g_icmp_eq 142 rfl rfl (fun hc => absurd hc (by intro z; have z := congrArg Int32.toInt z; rw [ebb] at z; have e1 : (Int32.ofInt (-1)).toInt = -1 := rfl; omega)) (fun _ => ?_)
        refine g_iload (i := 7) rfl rfl ?_
        refine g_iload (i := 5) rfl rfl ?_
        refine g_icmp_lt 142 rfl rfl (fun c_6 => ?_) (fun c_6 => ?_)
        · skip
          rw [i_lt, eap, ell] at c_6
          refine g_aload_n (i := 0) rfl rfl ?_
          refine g_getfield (v := .ref 76) rfl M.1 (by decide) rfl ?_
          refine g_iload (i := 6) rfl rfl ?_
          refine g_iaload (n := 1000) (f := fc) rfl h76 (i_in (by omega) (by omega)) ?_
          rw [i_nat el, hfc]
          refine g_istore (i := 4) (L1 := [some (.ref 60), some (.int (Int32.ofNat i)), some (.int y), some (.int w), some (.int (Int32.ofNat C)), some (.int (Int32.ofNat l)), some (.int (Int32.ofNat P.length)), some (.int (Int32.ofNat ((apW m s.1 (s.1 * s.2.1) i) C)))]) rfl (Nat.le_of_ble_eq_true rfl) rfl ?_
          refine g_iload (i := 7) rfl rfl ?_
          refine g_istore (i := 5) (L1 := [some (.ref 60), some (.int (Int32.ofNat i)), some (.int y), some (.int w), some (.int (Int32.ofNat C)), some (.int (Int32.ofNat ((apW m s.1 (s.1 * s.2.1) i) C))), some (.int (Int32.ofNat P.length)), some (.int (Int32.ofNat ((apW m s.1 (s.1 * s.2.1) i) C)))]) rfl (Nat.le_of_ble_eq_true rfl) rfl ?_
          refine g_iinc (i := 6) (L1 := [some (.ref 60), some (.int (Int32.ofNat i)), some (.int y), some (.int w), some (.int (Int32.ofNat C)), some (.int (Int32.ofNat ((apW m s.1 (s.1 * s.2.1) i) C))), some (.int ((Int32.ofNat P.length) + Int32.ofInt 1)), some (.int (Int32.ofNat ((apW m s.1 (s.1 * s.2.1) i) C)))]) rfl rfl rfl ?_
          rw [ofN_add (by omega)]
          refine g_goto 65 rfl rfl ?_
          have eo : chS (apW m s.1 (s.1 * s.2.1) i) C (some (b, l)) = some (C, (apW m s.1 (s.1 * s.2.1) i) C) := if_pos (by omega)
          rw [eo] at hI2
          have hF : chF (apW m s.1 (s.1 * s.2.1) i) R (some (C, (apW m s.1 (s.1 * s.2.1) i) C)) = fin := (congrArg (chF (apW m s.1 (s.1 * s.2.1) i) R) eo).symm.trans hF
          have key := ih (P ++ [C]) (some (C, (apW m s.1 (s.1 * s.2.1) i) C)) (some (.int (Int32.ofNat ((apW m s.1 (s.1 * s.2.1) i) C)))) hL2 hI2 hF
          rw [hP1] at key
          exact key
        · skip
          rw [i_lt, eap, ell] at c_6
          refine g_goto 155 rfl rfl ?_
          refine g_iinc (i := 6) (L1 := [some (.ref 60), some (.int (Int32.ofNat i)), some (.int y), some (.int w), some (.int (Int32.ofNat b)), some (.int (Int32.ofNat l)), some (.int ((Int32.ofNat P.length) + Int32.ofInt 1)), some (.int (Int32.ofNat ((apW m s.1 (s.1 * s.2.1) i) C)))]) rfl rfl rfl ?_
          rw [ofN_add (by omega)]
          refine g_goto 65 rfl rfl ?_
          have eo : chS (apW m s.1 (s.1 * s.2.1) i) C (some (b, l)) = some (b, l) := if_neg (by omega)
          have hF : chF (apW m s.1 (s.1 * s.2.1) i) R (some (b, l)) = fin := (congrArg (chF (apW m s.1 (s.1 * s.2.1) i) R) eo).symm.trans hF
          have key := ih (P ++ [C]) (some (b, l)) (some (.int (Int32.ofNat ((apW m s.1 (s.1 * s.2.1) i) C)))) hL2 hI hF
          rw [hP1] at key
          exact key
theorem s_forget {d : Nat} {h : sHp} {B : Nat → Int32} {S1 S2 : Int64} {x : Int32} (hd : 1 ≤ d) (hS : h[38]? = some (sO B S1 S2)) : sDo d 95 [.ref 38, .int x] h (fun r h' => r = none ∧ h' = h.set 38 (sO (upd (upd (upd B 0 (Int32.ofInt (-1))) 4 (Int32.ofInt 0)) 5 x) S1 S2)) := by
  refine sDo_of1 (nL := 2) (L := [some (.ref 38), some (.int x)]) hd rfl rfl ?_
  refine g_aload_n (i := 0) rfl rfl ?_
  refine g_iconst (n := (-1)) rfl ?_
  refine g_putfield (h1 := h.set 38 (sO (upd B 0 (Int32.ofInt (-1))) S1 S2)) rfl hS (by decide) (Nat.le_of_ble_eq_true rfl) rfl rfl ?_
  have hA : (h.set 38 (sO (upd B 0 (Int32.ofInt (-1))) S1 S2))[38]? = some (sO (upd B 0 (Int32.ofInt (-1))) S1 S2) := s_set_eq hS
  refine g_aload_n (i := 0) rfl rfl ?_
  refine g_iconst (n := 0) rfl ?_
  refine g_putfield (h1 := h.set 38 (sO (upd (upd B 0 (Int32.ofInt (-1))) 4 (Int32.ofInt 0)) S1 S2)) rfl hA (by decide) (Nat.le_of_ble_eq_true rfl) rfl (by rw [List.set_set]; rfl) ?_
  have hB : (h.set 38 (sO (upd (upd B 0 (Int32.ofInt (-1))) 4 (Int32.ofInt 0)) S1 S2))[38]? = some (sO (upd (upd B 0 (Int32.ofInt (-1))) 4 (Int32.ofInt 0)) S1 S2) := s_set_eq hS
  refine g_aload_n (i := 0) rfl rfl ?_
  refine g_iload_n (i := 1) rfl rfl ?_
  refine g_putfield (h1 := h.set 38 (sO (upd (upd (upd B 0 (Int32.ofInt (-1))) 4 (Int32.ofInt 0)) 5 x) S1 S2)) rfl hB (by decide) (Nat.le_of_ble_eq_true rfl) rfl (by rw [List.set_set]; rfl) ?_
  refine g_return rfl rfl ?_
  exact ⟨rfl, rfl⟩
theorem ls_k2 {W H : Nat} (w8 : W ≤ 8) (h8 : H ≤ 8) : ∀ C ∈ lsT W H true false, C < 7000 ∧ ¬ C / 1000 = 3 := ls_k w8 h8
theorem s_findFairest {d : Nat} {h : sHp} {c : CF} {m : MF} {s : Sg} {i : Nat} {B : Nat → Int32} {S1 S2 : Int64} {fc : Nat → Int32} {ff : Nat → Int64} (hd : 7 ≤ d) (F : FC h 5 c) (g : gdF c s.1 s.2.1) (r : RB c m) (sI : sgI c s) (hi : i < s.2.2) (hS : h[38]? = some (sO B S1 S2)) (h39 : h[39]? = some (.inl (0, 644, .inl fc))) (h40 : h[40]? = some (.inl (1, 644, .inr (.inl ff)))) : sDo d 99 [.ref 38, .ref 5, .int (Int32.ofNat i)] h (fun rv h' => rv = some (.long (chX s.1 (s.1 * s.2.1) (chF (apW m s.1 (s.1 * s.2.1) i) (lsT s.1 s.2.1 true false) none))) ∧ scE h h' ∧ ∃ B', h'[38]? = some (sO B' S1 S2) ∧ B' 0 = chB (chF (apW m s.1 (s.1 * s.2.1) i) (lsT s.1 s.2.1 true false) none)) := by
  have w8 := g.2.2.2.1
  have h8 := g.2.2.2.2.2.1
  refine sDo_of1 (nL := 10) (L := [some (.ref 38), some (.ref 5), some (.int (Int32.ofNat i)), none, none, none, none, none, none, none]) (by omega) rfl rfl ?_
  refine g_aload_n (i := 0) rfl rfl ?_
  refine g_sipush (n := 1000) rfl ?_
  refine g_virt1 rfl (by decide) rfl hS rfl (Nat.le_of_ble_eq_true rfl) (s_forget (d := d - 1) (x := (Int16.ofInt 1000).toInt32) (by omega) hS) (fun r h1 hq => ?_)
  obtain ⟨rfl, rfl⟩ := hq
  have hA : (h.set 38 (sO (upd (upd (upd B 0 (Int32.ofInt (-1))) 4 (Int32.ofInt 0)) 5 (Int16.ofInt 1000).toInt32) S1 S2))[38]? = some (sO (upd (upd (upd B 0 (Int32.ofInt (-1))) 4 (Int32.ofInt 0)) 5 (Int16.ofInt 1000).toInt32) S1 S2) := s_set_eq hS
  have FA := FC_out (q := 38) (x := sO (upd (upd (upd B 0 (Int32.ofInt (-1))) 4 (Int32.ofInt 0)) 5 (Int16.ofInt 1000).toInt32) S1 S2) F (by omega)
  refine g_aload_n (i := 0) rfl rfl ?_
  refine g_aload_n (i := 1) rfl rfl ?_
  refine g_iconst (n := 1) rfl ?_
  refine g_iconst (n := 0) rfl ?_
  have hls := s_listCuts (d := d - 1) (x2 := Int32.ofInt 1) (x3 := Int32.ofInt 0) (fc := fc) (ff := ff) true false (by omega) FA g hA (by rw [s_set_ne (by decide)]; exact h39) (by rw [s_set_ne (by decide)]; exact h40) (by decide) (by decide)
  refine g_virt3 rfl (by decide) rfl hA rfl (Nat.le_of_ble_eq_true rfl) hls (fun r h2 hq => ?_)
  obtain ⟨rfl, ⟨B2, fc2, ff2, hS2, bb, b6, g39, g40, p1, p2⟩, E2⟩ := hq
  have F2 := FC_tr FA (fun q x h1 h2 hx => (E2.2 q (by omega)).trans hx)
  refine g_lconst (n := 0) rfl ?_
  show sGo none 99 _ 15 [some (.ref 38), some (.ref 5), some (.int (Int32.ofNat i)), none, none, none, none, none, none, none] [.long (Int64.ofNat 0)] _ _
  refine g_lstore_n (i := 3) (L1 := [some (.ref 38), some (.ref 5), some (.int (Int32.ofNat i)), some (.long (Int64.ofNat 0)), none, none, none, none, none, none]) rfl (Nat.le_of_ble_eq_true rfl) rfl ?_
  refine g_ldc (j := 1000000) (by decide) rfl ?_
  refine g_istore (i := 5) (L1 := [some (.ref 38), some (.ref 5), some (.int (Int32.ofNat i)), some (.long (Int64.ofNat 0)), none, some (.int (Int32.ofNat 1000000)), none, none, none, none]) rfl (Nat.le_of_ble_eq_true rfl) rfl ?_
  refine g_iconst (n := 0) rfl ?_
  refine g_istore (i := 6) (L1 := [some (.ref 38), some (.ref 5), some (.int (Int32.ofNat i)), some (.long (Int64.ofNat 0)), none, some (.int (Int32.ofNat 1000000)), some (.int (Int32.ofInt 0)), none, none, none]) rfl (Nat.le_of_ble_eq_true rfl) rfl ?_
  exact s_ch11_go (d := d - 1) (h0 := h) (by omega) g r sI hi (ls_k2 w8 h8) (ls_len w8 h8) p1 p2 (lsT s.1 s.2.1 true false) [] none B2 h2 _ _ rfl (fun _ _ z => by cases z) F2 hS2 b6 ((bb 0 (by decide)).trans ((u_ne (by decide)).trans ((u_ne (by decide)).trans u_at))) g39 g40 (scE_tr (scE_set scE_rfl (by decide)) E2)
/-- the answer of choose, once the fairest cut is b -/
def chV (m : MF) (W n i j b : Nat) (k : Int) : Int32 := if k = 0 then Int32.ofNat b else if wV m n j (fsS W n b) < wV m n j (sdS W n b 1) then (if k = 1 then 1 else if k = 2 then Int32.ofNat (wV m n j (sdS W n b 1)) else Int32.ofNat (wV m n i (fsS W n b))) else (if k = 1 then 0 else if k = 2 then Int32.ofNat (wV m n j (fsS W n b)) else Int32.ofNat (wV m n i (sdS W n b 1)))
theorem chV_0 {m : MF} {W n i j b : Nat} {k : Int} (h : k = 0) : chV m W n i j b k = Int32.ofNat b := if_pos h
theorem chV_y {m : MF} {W n i j b : Nat} {k : Int} (h : ¬ k = 0) (t : wV m n j (fsS W n b) < wV m n j (sdS W n b 1)) : chV m W n i j b k = if k = 1 then 1 else if k = 2 then Int32.ofNat (wV m n j (sdS W n b 1)) else Int32.ofNat (wV m n i (fsS W n b)) := (if_neg h).trans (if_pos t)
theorem chV_n {m : MF} {W n i j b : Nat} {k : Int} (h : ¬ k = 0) (t : ¬ wV m n j (fsS W n b) < wV m n j (sdS W n b 1)) : chV m W n i j b k = if k = 1 then 0 else if k = 2 then Int32.ofNat (wV m n j (fsS W n b)) else Int32.ofNat (wV m n i (sdS W n b 1)) := (if_neg h).trans (if_neg t)
theorem ls_ne {W H : Nat} {b4 b32 : Bool} (hW : 2 ≤ W) : ∃ C L, lsT W H b4 b32 = C :: L := by
  obtain ⟨f, hf⟩ : ∃ f, W - 1 = f + 1 := ⟨W - 2, by omega⟩
  unfold lsT
  rw [hf]
  exact ⟨_, _, rfl⟩
theorem fin_some {ap : Nat → Nat} {W H : Nat} (hW : 2 ≤ W) : ∃ b l, chF ap (lsT W H true false) none = some (b, l) := by
  obtain ⟨C, L, e⟩ := ls_ne (W := W) (H := H) (b4 := true) (b32 := false) hW
  rw [e]
  obtain ⟨⟨b, l⟩, h⟩ := chF_some (ap := ap) (L := L) (o := some (C, ap C)) ⟨_, rfl⟩
  exact ⟨b, l, h⟩
theorem s_choose11 {d : Nat} {h : sHp} {ik tf : Int32} {c : CF} {m : MF} {s : Sg} {B : Nat → Int32} {S1 S2 : Int64} {fc : Nat → Int32} {ff : Nat → Int64} {i j b l : Nat} {w : Int32} (hd : 8 ≤ d) (h0 : h[0]? = some (cO ik tf)) (F : FC h 5 c) (g : gdF c s.1 s.2.1) (r : RB c m) (sI : sgI c s) (hi : i < s.2.2) (hj : j < s.2.2) (hij : ¬ i = j) (hw : 0 ≤ w.toInt ∧ w.toInt ≤ 3) (hS : h[38]? = some (sO B S1 S2)) (h39 : h[39]? = some (.inl (0, 644, .inl fc))) (h40 : h[40]? = some (.inl (1, 644, .inr (.inl ff)))) (hfin : chF (apW m s.1 (s.1 * s.2.1) i) (lsT s.1 s.2.1 true false) none = some (b, l)) (hb : b < 7000 ∧ ¬ b / 1000 = 3) : sDo d 143 [.ref 0, .int (Int32.ofNat i), .int (Int32.ofNat j), .int w] h (fun rv h' => rv = some (.int (chV m s.1 (s.1 * s.2.1) i j b w.toInt)) ∧ scE h h') := by
  have n5 := sI.2.2.2.2.2.2.2
  have hn := gdF_n g
  have g2 : c.2.1 2 = stO (fun _ => true) (s.1 * s.2.1) := g.2.2.2.2.2.2.1
  have RS := (r.2 s sI).1
  have ei := ofN_toInt (n := i) (by omega)
  have ej := ofN_toInt (n := j) (by omega)
  have eF := ofC_toInt (n := wV m (s.1 * s.2.1) j (fsS s.1 (s.1 * s.2.1) b)) (by have := wV_le (x := (fsS s.1 (s.1 * s.2.1) b)) hn.1 RS hj; omega)
  have eS := ofC_toInt (n := wV m (s.1 * s.2.1) j (sdS s.1 (s.1 * s.2.1) b 1)) (by have := wV_le (x := (sdS s.1 (s.1 * s.2.1) b 1)) hn.1 RS hj; omega)
  have e2 : c.2.1 2 &&& ((fsS s.1 (s.1 * s.2.1) b) ^^^ Int64.ofNat 18446744073709551615) = (sdS s.1 (s.1 * s.2.1) b 1) := by rw [g2]; exact sec_sd hn.1 hb.2
  refine sDo_of1 (nL := 9) (L := [some (.ref 0), some (.int (Int32.ofNat i)), some (.int (Int32.ofNat j)), some (.int w), none, none, none, none, none]) (by omega) rfl rfl ?_
  refine g_aload_n (i := 0) rfl rfl ?_
  refine g_getfield (v := .ref 5) rfl h0 (by decide) rfl ?_
  refine g_iload_n (i := 1) rfl rfl ?_
  refine g_virt1 (Qc := fun r h' => h' = h ∧ (((0 ≤ (Int32.ofNat i).toInt ∧ (Int32.ofNat i).toInt < (s.2.2 : Int)) ∧ r = some (.int 1)) ∨ (¬ (0 ≤ (Int32.ofNat i).toInt ∧ (Int32.ofNat i).toInt < (s.2.2 : Int)) ∧ r = some (.int 0)))) rfl (by decide) rfl F.1 rfl (Nat.le_of_ble_eq_true rfl) (s_hr11 (by omega) F sI.2.2.1 n5) (fun r h hq9 => ?_)
  obtain ⟨rfl, ⟨c_1, rfl⟩ | ⟨c_1, rfl⟩⟩ := hq9
  · skip
    refine g_if_eq 22 rfl rfl (fun hc => absurd hc (by decide)) (fun _ => ?_)
    refine g_aload_n (i := 0) rfl rfl ?_
    refine g_getfield (v := .ref 5) rfl h0 (by decide) rfl ?_
    refine g_iload_n (i := 2) rfl rfl ?_
    refine g_virt1 (Qc := fun r h' => h' = h ∧ (((0 ≤ (Int32.ofNat j).toInt ∧ (Int32.ofNat j).toInt < (s.2.2 : Int)) ∧ r = some (.int 1)) ∨ (¬ (0 ≤ (Int32.ofNat j).toInt ∧ (Int32.ofNat j).toInt < (s.2.2 : Int)) ∧ r = some (.int 0)))) rfl (by decide) rfl F.1 rfl (Nat.le_of_ble_eq_true rfl) (s_hr11 (by omega) F sI.2.2.1 n5) (fun r h hq9 => ?_)
    obtain ⟨rfl, ⟨c_2, rfl⟩ | ⟨c_2, rfl⟩⟩ := hq9
    · skip
      refine g_if_ne 28 rfl rfl (fun _ => ?_) (fun hc => absurd hc (by decide))
      refine g_iload_n (i := 3) rfl rfl ?_
      have k_4 : (0 : Int32).toInt = 0 := rfl
      refine g_if_lt 37 rfl rfl (fun c_3 => ?_) (fun c_3 => ?_)
      · skip
        rw [i_lt, k_4] at c_3
        exfalso; omega
      · skip
        rw [i_lt, k_4] at c_3
        refine g_iload_n (i := 3) rfl rfl ?_
        refine g_iconst (n := 3) rfl ?_
        have k_6 : (Int32.ofInt 3).toInt = 3 := rfl
        refine g_icmp_le 44 rfl rfl (fun c_5 => ?_) (fun c_5 => ?_)
        · skip
          rw [i_le, k_6] at c_5
          refine g_iload_n (i := 1) rfl rfl ?_
          refine g_iload_n (i := 2) rfl rfl ?_
          refine g_icmp_ne 56 rfl rfl (fun c_7 => ?_) (fun c_7 => ?_)
          · skip
            rw [i_eq, ei, ej] at c_7
            refine g_aload_n (i := 0) rfl rfl ?_
            refine g_getfield (v := .ref 38) rfl h0 (by decide) rfl ?_
            refine g_aload_n (i := 0) rfl rfl ?_
            refine g_getfield (v := .ref 5) rfl h0 (by decide) rfl ?_
            refine g_iload_n (i := 1) rfl rfl ?_
            refine g_virt2 rfl (by decide) rfl hS rfl (Nat.le_of_ble_eq_true rfl) (s_findFairest (d := d - 1) (by omega) F g r sI hi hS h39 h40) (fun rv h2 hq => ?_)
            obtain ⟨rfl, E2, B2, hS2, b0⟩ := hq
            rw [hfin] at b0
            rw [hfin]
            have F2 : FC h2 5 c := FC_tr F (fun q x h1 h2 hx => (E2.2 q (by omega)).trans hx)
            have z0 := (E2.2 0 (by decide)).trans h0
            have b0 : B2 0 = Int32.ofNat b := b0
            show sGo none 143 _ 68 [some (.ref 0), some (.int (Int32.ofNat i)), some (.int (Int32.ofNat j)), some (.int w), none, none, none, none, none] [.long ((fsS s.1 (s.1 * s.2.1) b))] _ _
            refine g_lstore (i := 4) (L1 := [some (.ref 0), some (.int (Int32.ofNat i)), some (.int (Int32.ofNat j)), some (.int w), some (.long ((fsS s.1 (s.1 * s.2.1) b))), none, none, none, none]) rfl (Nat.le_of_ble_eq_true rfl) rfl ?_
            refine g_aload_n (i := 0) rfl rfl ?_
            refine g_getfield (v := .ref 5) rfl z0 (by decide) rfl ?_
            refine g_getfield (v := .long (c.2.1 2)) rfl F2.1 (by decide) rfl ?_
            refine g_lload (i := 4) rfl rfl ?_
            refine g_ldc2_w (j := 18446744073709551615) rfl ?_
            refine g_lxor rfl ?_
            refine g_land rfl ?_
            rw [e2]
            refine g_lstore (i := 6) (L1 := [some (.ref 0), some (.int (Int32.ofNat i)), some (.int (Int32.ofNat j)), some (.int w), some (.long ((fsS s.1 (s.1 * s.2.1) b))), none, some (.long ((sdS s.1 (s.1 * s.2.1) b 1))), none, none]) rfl (Nat.le_of_ble_eq_true rfl) rfl ?_
            refine g_aload_n (i := 0) rfl rfl ?_
            refine g_getfield (v := .ref 5) rfl z0 (by decide) rfl ?_
            refine g_iload_n (i := 2) rfl rfl ?_
            refine g_lload (i := 6) rfl rfl ?_
            refine g_virt2 (Qc := fun r h' => h' = h2 ∧ r = some (.int (Int32.ofNat (wV m (s.1 * s.2.1) j (sdS s.1 (s.1 * s.2.1) b 1))))) rfl (by decide) rfl F2.1 rfl (Nat.le_of_ble_eq_true rfl) (s_worthOf11 (by omega) F2 g r sI hj) (fun r h2 hq9 => ?_)
            obtain ⟨rfl, rfl⟩ := hq9
            refine g_aload_n (i := 0) rfl rfl ?_
            refine g_getfield (v := .ref 5) rfl z0 (by decide) rfl ?_
            refine g_iload_n (i := 2) rfl rfl ?_
            refine g_lload (i := 4) rfl rfl ?_
            refine g_virt2 (Qc := fun r h' => h' = h2 ∧ r = some (.int (Int32.ofNat (wV m (s.1 * s.2.1) j (fsS s.1 (s.1 * s.2.1) b))))) rfl (by decide) rfl F2.1 rfl (Nat.le_of_ble_eq_true rfl) (s_worthOf11 (by omega) F2 g r sI hj) (fun r h2 hq9 => ?_)
            obtain ⟨rfl, rfl⟩ := hq9
            refine g_icmp_le 113 rfl rfl (fun c_8 => ?_) (fun c_8 => ?_)
            · skip
              rw [i_le, eS, eF] at c_8
              refine g_iconst (n := 0) rfl ?_
              refine g_istore (i := 8) (L1 := [some (.ref 0), some (.int (Int32.ofNat i)), some (.int (Int32.ofNat j)), some (.int w), some (.long ((fsS s.1 (s.1 * s.2.1) b))), none, some (.long ((sdS s.1 (s.1 * s.2.1) b 1))), none, some (.int (Int32.ofInt 0))]) rfl (Nat.le_of_ble_eq_true rfl) rfl ?_
              refine g_iload_n (i := 3) rfl rfl ?_
              rcases (show w.toInt = 0 ∨ w.toInt = 1 ∨ w.toInt = 2 ∨ w.toInt = 3 by omega) with hv | hv | hv | hv
              · skip
                refine g_tsIn 0 144 rfl (by omega) (by rw [hv]; rfl) rfl rfl ?_
                refine g_aload_n (i := 0) rfl rfl ?_
                refine g_getfield (v := .ref 38) rfl z0 (by decide) rfl ?_
                refine g_getfield (v := .int (B2 0)) rfl hS2 (by decide) rfl ?_
                refine g_ireturn (ty := .int) rfl rfl rfl ?_
                exact ⟨by rw [chV_0 hv]; exact congrArg (fun z => some (Value.int z)) b0, E2⟩
              · skip
                refine g_tsIn 1 152 rfl (by omega) (by rw [hv]; rfl) rfl rfl ?_
                refine g_iload (i := 8) rfl rfl ?_
                refine g_if_eq 161 rfl rfl (fun _ => ?_) (fun hc => absurd hc (by decide))
                refine g_iconst (n := 0) rfl ?_
                refine g_ireturn (ty := .int) rfl rfl rfl ?_
                exact ⟨by rw [chV_n (show ¬ w.toInt = 0 by omega) (show ¬ wV m (s.1 * s.2.1) j (fsS s.1 (s.1 * s.2.1) b) < wV m (s.1 * s.2.1) j (sdS s.1 (s.1 * s.2.1) b 1) by omega), if_pos hv]; rfl, E2⟩
              · skip
                refine g_tsIn 2 163 rfl (by omega) (by rw [hv]; rfl) rfl rfl ?_
                refine g_aload_n (i := 0) rfl rfl ?_
                refine g_getfield (v := .ref 5) rfl z0 (by decide) rfl ?_
                refine g_iload_n (i := 2) rfl rfl ?_
                refine g_iload (i := 8) rfl rfl ?_
                refine g_if_eq 178 rfl rfl (fun _ => ?_) (fun hc => absurd hc (by decide))
                refine g_lload (i := 4) rfl rfl ?_
                refine g_virt2 (Qc := fun r h' => h' = h2 ∧ r = some (.int (Int32.ofNat (wV m (s.1 * s.2.1) j (fsS s.1 (s.1 * s.2.1) b))))) rfl (by decide) rfl F2.1 rfl (Nat.le_of_ble_eq_true rfl) (s_worthOf11 (by omega) F2 g r sI hj) (fun r h2 hq9 => ?_)
                obtain ⟨rfl, rfl⟩ := hq9
                refine g_ireturn (ty := .int) rfl rfl rfl ?_
                exact ⟨by rw [chV_n (show ¬ w.toInt = 0 by omega) (show ¬ wV m (s.1 * s.2.1) j (fsS s.1 (s.1 * s.2.1) b) < wV m (s.1 * s.2.1) j (sdS s.1 (s.1 * s.2.1) b 1) by omega), if_neg (show ¬ w.toInt = 1 by omega), if_pos hv], E2⟩
              · skip
                refine g_tsOut 184 rfl (by omega) rfl ?_
                refine g_aload_n (i := 0) rfl rfl ?_
                refine g_getfield (v := .ref 5) rfl z0 (by decide) rfl ?_
                refine g_iload_n (i := 1) rfl rfl ?_
                refine g_iload (i := 8) rfl rfl ?_
                refine g_if_eq 199 rfl rfl (fun _ => ?_) (fun hc => absurd hc (by decide))
                refine g_lload (i := 6) rfl rfl ?_
                refine g_virt2 (Qc := fun r h' => h' = h2 ∧ r = some (.int (Int32.ofNat (wV m (s.1 * s.2.1) i (sdS s.1 (s.1 * s.2.1) b 1))))) rfl (by decide) rfl F2.1 rfl (Nat.le_of_ble_eq_true rfl) (s_worthOf11 (by omega) F2 g r sI hi) (fun r h2 hq9 => ?_)
                obtain ⟨rfl, rfl⟩ := hq9
                refine g_ireturn (ty := .int) rfl rfl rfl ?_
                exact ⟨by rw [chV_n (show ¬ w.toInt = 0 by omega) (show ¬ wV m (s.1 * s.2.1) j (fsS s.1 (s.1 * s.2.1) b) < wV m (s.1 * s.2.1) j (sdS s.1 (s.1 * s.2.1) b 1) by omega), if_neg (show ¬ w.toInt = 1 by omega), if_neg (show ¬ w.toInt = 2 by omega)], E2⟩
            · skip
              rw [i_le, eS, eF] at c_8
              refine g_iconst (n := 1) rfl ?_
              refine g_goto 114 rfl rfl ?_
              refine g_istore (i := 8) (L1 := [some (.ref 0), some (.int (Int32.ofNat i)), some (.int (Int32.ofNat j)), some (.int w), some (.long ((fsS s.1 (s.1 * s.2.1) b))), none, some (.long ((sdS s.1 (s.1 * s.2.1) b 1))), none, some (.int (Int32.ofInt 1))]) rfl (Nat.le_of_ble_eq_true rfl) rfl ?_
              refine g_iload_n (i := 3) rfl rfl ?_
              rcases (show w.toInt = 0 ∨ w.toInt = 1 ∨ w.toInt = 2 ∨ w.toInt = 3 by omega) with hv | hv | hv | hv
              · skip
                refine g_tsIn 0 144 rfl (by omega) (by rw [hv]; rfl) rfl rfl ?_
                refine g_aload_n (i := 0) rfl rfl ?_
                refine g_getfield (v := .ref 38) rfl z0 (by decide) rfl ?_
                refine g_getfield (v := .int (B2 0)) rfl hS2 (by decide) rfl ?_
                refine g_ireturn (ty := .int) rfl rfl rfl ?_
                exact ⟨by rw [chV_0 hv]; exact congrArg (fun z => some (Value.int z)) b0, E2⟩
              · skip
                refine g_tsIn 1 152 rfl (by omega) (by rw [hv]; rfl) rfl rfl ?_
                refine g_iload (i := 8) rfl rfl ?_
                refine g_if_eq 161 rfl rfl (fun hc => absurd hc (by decide)) (fun _ => ?_)
                refine g_iconst (n := 1) rfl ?_
                refine g_goto 162 rfl rfl ?_
                refine g_ireturn (ty := .int) rfl rfl rfl ?_
                exact ⟨by rw [chV_y (show ¬ w.toInt = 0 by omega) (show wV m (s.1 * s.2.1) j (fsS s.1 (s.1 * s.2.1) b) < wV m (s.1 * s.2.1) j (sdS s.1 (s.1 * s.2.1) b 1) by omega), if_pos hv]; rfl, E2⟩
              · skip
                refine g_tsIn 2 163 rfl (by omega) (by rw [hv]; rfl) rfl rfl ?_
                refine g_aload_n (i := 0) rfl rfl ?_
                refine g_getfield (v := .ref 5) rfl z0 (by decide) rfl ?_
                refine g_iload_n (i := 2) rfl rfl ?_
                refine g_iload (i := 8) rfl rfl ?_
                refine g_if_eq 178 rfl rfl (fun hc => absurd hc (by decide)) (fun _ => ?_)
                refine g_lload (i := 6) rfl rfl ?_
                refine g_goto 180 rfl rfl ?_
                refine g_virt2 (Qc := fun r h' => h' = h2 ∧ r = some (.int (Int32.ofNat (wV m (s.1 * s.2.1) j (sdS s.1 (s.1 * s.2.1) b 1))))) rfl (by decide) rfl F2.1 rfl (Nat.le_of_ble_eq_true rfl) (s_worthOf11 (by omega) F2 g r sI hj) (fun r h2 hq9 => ?_)
                obtain ⟨rfl, rfl⟩ := hq9
                refine g_ireturn (ty := .int) rfl rfl rfl ?_
                exact ⟨by rw [chV_y (show ¬ w.toInt = 0 by omega) (show wV m (s.1 * s.2.1) j (fsS s.1 (s.1 * s.2.1) b) < wV m (s.1 * s.2.1) j (sdS s.1 (s.1 * s.2.1) b 1) by omega), if_neg (show ¬ w.toInt = 1 by omega), if_pos hv], E2⟩
              · skip
                refine g_tsOut 184 rfl (by omega) rfl ?_
                refine g_aload_n (i := 0) rfl rfl ?_
                refine g_getfield (v := .ref 5) rfl z0 (by decide) rfl ?_
                refine g_iload_n (i := 1) rfl rfl ?_
                refine g_iload (i := 8) rfl rfl ?_
                refine g_if_eq 199 rfl rfl (fun hc => absurd hc (by decide)) (fun _ => ?_)
                refine g_lload (i := 4) rfl rfl ?_
                refine g_goto 201 rfl rfl ?_
                refine g_virt2 (Qc := fun r h' => h' = h2 ∧ r = some (.int (Int32.ofNat (wV m (s.1 * s.2.1) i (fsS s.1 (s.1 * s.2.1) b))))) rfl (by decide) rfl F2.1 rfl (Nat.le_of_ble_eq_true rfl) (s_worthOf11 (by omega) F2 g r sI hi) (fun r h2 hq9 => ?_)
                obtain ⟨rfl, rfl⟩ := hq9
                refine g_ireturn (ty := .int) rfl rfl rfl ?_
                exact ⟨by rw [chV_y (show ¬ w.toInt = 0 by omega) (show wV m (s.1 * s.2.1) j (fsS s.1 (s.1 * s.2.1) b) < wV m (s.1 * s.2.1) j (sdS s.1 (s.1 * s.2.1) b 1) by omega), if_neg (show ¬ w.toInt = 1 by omega), if_neg (show ¬ w.toInt = 2 by omega)], E2⟩
          · skip
            rw [i_eq, ei, ej] at c_7
            exfalso; omega
        · skip
          rw [i_le, k_6] at c_5
          exfalso; omega
    · skip
      refine g_if_ne 28 rfl rfl (fun hc => absurd hc (by decide)) (fun _ => ?_)
      exfalso; omega
  · skip
    refine g_if_eq 22 rfl rfl (fun _ => ?_) (fun hc => absurd hc (by decide))
    exfalso; omega
theorem s_choose11_1 {d : Nat} {h : sHp} {ik tf : Int32} {R : Nat → Int32} {c : CF} {s : Sg} {x y w : Int32} (hd : 4 ≤ d) (h0 : h[0]? = some (cO ik tf)) (hR : h[43]? = some (rFc R)) (F : FC h 5 c) (sI : sgI c s) (hx : ¬ ((0 ≤ x.toInt ∧ x.toInt < (s.2.2 : Int)) ∧ (0 ≤ y.toInt ∧ y.toInt < (s.2.2 : Int)))) : sDo d 143 [.ref 0, .int x, .int y, .int w] h (fun r h' => r = some (.int (-1)) ∧ h' = h.set 43 (rFc (bump R 1))) := by
  have n5 := sI.2.2.2.2.2.2.2
  refine sDo_of1 (nL := 9) (L := [some (.ref 0), some (.int x), some (.int y), some (.int w), none, none, none, none, none]) (by omega) rfl rfl ?_
  refine g_aload_n (i := 0) rfl rfl ?_
  refine g_getfield (v := .ref 5) rfl h0 (by decide) rfl ?_
  refine g_iload_n (i := 1) rfl rfl ?_
  refine g_virt1 (Qc := fun r h' => h' = h ∧ (((0 ≤ (x).toInt ∧ (x).toInt < (s.2.2 : Int)) ∧ r = some (.int 1)) ∨ (¬ (0 ≤ (x).toInt ∧ (x).toInt < (s.2.2 : Int)) ∧ r = some (.int 0)))) rfl (by decide) rfl F.1 rfl (Nat.le_of_ble_eq_true rfl) (s_hr11 (by omega) F sI.2.2.1 n5) (fun r h hq9 => ?_)
  obtain ⟨rfl, ⟨c_1, rfl⟩ | ⟨c_1, rfl⟩⟩ := hq9
  · skip
    refine g_if_eq 22 rfl rfl (fun hc => absurd hc (by decide)) (fun _ => ?_)
    refine g_aload_n (i := 0) rfl rfl ?_
    refine g_getfield (v := .ref 5) rfl h0 (by decide) rfl ?_
    refine g_iload_n (i := 2) rfl rfl ?_
    refine g_virt1 (Qc := fun r h' => h' = h ∧ (((0 ≤ (y).toInt ∧ (y).toInt < (s.2.2 : Int)) ∧ r = some (.int 1)) ∨ (¬ (0 ≤ (y).toInt ∧ (y).toInt < (s.2.2 : Int)) ∧ r = some (.int 0)))) rfl (by decide) rfl F.1 rfl (Nat.le_of_ble_eq_true rfl) (s_hr11 (by omega) F sI.2.2.1 n5) (fun r h hq9 => ?_)
    obtain ⟨rfl, ⟨c_2, rfl⟩ | ⟨c_2, rfl⟩⟩ := hq9
    · skip
      refine g_if_ne 28 rfl rfl (fun _ => ?_) (fun hc => absurd hc (by decide))
      exfalso; omega
    · skip
      refine g_if_ne 28 rfl rfl (fun hc => absurd hc (by decide)) (fun _ => ?_)
      refine g_aload_n (i := 0) rfl rfl ?_
      refine g_iconst (n := (-1)) rfl ?_
      refine g_virt1 (Qc := fun r h' => r = some (.int ((Int32.ofInt (-1)))) ∧ h' = h.set 43 (rFc (bump R 1))) rfl (by decide) rfl h0 rfl (Nat.le_of_ble_eq_true rfl) (s_refuse2 (X := 1) (by omega) h0 hR rfl (by decide)) (fun r h9 hq9 => ?_)
      obtain ⟨rfl, rfl⟩ := hq9
      refine g_ireturn (ty := .int) rfl rfl rfl ?_
      exact ⟨rfl, rfl⟩
  · skip
    refine g_if_eq 22 rfl rfl (fun _ => ?_) (fun hc => absurd hc (by decide))
    refine g_aload_n (i := 0) rfl rfl ?_
    refine g_iconst (n := (-1)) rfl ?_
    refine g_virt1 (Qc := fun r h' => r = some (.int ((Int32.ofInt (-1)))) ∧ h' = h.set 43 (rFc (bump R 1))) rfl (by decide) rfl h0 rfl (Nat.le_of_ble_eq_true rfl) (s_refuse2 (X := 1) (by omega) h0 hR rfl (by decide)) (fun r h9 hq9 => ?_)
    obtain ⟨rfl, rfl⟩ := hq9
    refine g_ireturn (ty := .int) rfl rfl rfl ?_
    exact ⟨rfl, rfl⟩
theorem s_choose11_5 {d : Nat} {h : sHp} {ik tf : Int32} {R : Nat → Int32} {c : CF} {s : Sg} {x y w : Int32} (hd : 4 ≤ d) (h0 : h[0]? = some (cO ik tf)) (hR : h[43]? = some (rFc R)) (F : FC h 5 c) (sI : sgI c s) (hx : (0 ≤ x.toInt ∧ x.toInt < (s.2.2 : Int)) ∧ (0 ≤ y.toInt ∧ y.toInt < (s.2.2 : Int))) (hw : ¬ (0 ≤ w.toInt ∧ w.toInt ≤ 3)) : sDo d 143 [.ref 0, .int x, .int y, .int w] h (fun r h' => r = some (.int (-5)) ∧ h' = h.set 43 (rFc (bump R 5))) := by
  have n5 := sI.2.2.2.2.2.2.2
  refine sDo_of1 (nL := 9) (L := [some (.ref 0), some (.int x), some (.int y), some (.int w), none, none, none, none, none]) (by omega) rfl rfl ?_
  refine g_aload_n (i := 0) rfl rfl ?_
  refine g_getfield (v := .ref 5) rfl h0 (by decide) rfl ?_
  refine g_iload_n (i := 1) rfl rfl ?_
  refine g_virt1 (Qc := fun r h' => h' = h ∧ (((0 ≤ (x).toInt ∧ (x).toInt < (s.2.2 : Int)) ∧ r = some (.int 1)) ∨ (¬ (0 ≤ (x).toInt ∧ (x).toInt < (s.2.2 : Int)) ∧ r = some (.int 0)))) rfl (by decide) rfl F.1 rfl (Nat.le_of_ble_eq_true rfl) (s_hr11 (by omega) F sI.2.2.1 n5) (fun r h hq9 => ?_)
  obtain ⟨rfl, ⟨c_1, rfl⟩ | ⟨c_1, rfl⟩⟩ := hq9
  · skip
    refine g_if_eq 22 rfl rfl (fun hc => absurd hc (by decide)) (fun _ => ?_)
    refine g_aload_n (i := 0) rfl rfl ?_
    refine g_getfield (v := .ref 5) rfl h0 (by decide) rfl ?_
    refine g_iload_n (i := 2) rfl rfl ?_
    refine g_virt1 (Qc := fun r h' => h' = h ∧ (((0 ≤ (y).toInt ∧ (y).toInt < (s.2.2 : Int)) ∧ r = some (.int 1)) ∨ (¬ (0 ≤ (y).toInt ∧ (y).toInt < (s.2.2 : Int)) ∧ r = some (.int 0)))) rfl (by decide) rfl F.1 rfl (Nat.le_of_ble_eq_true rfl) (s_hr11 (by omega) F sI.2.2.1 n5) (fun r h hq9 => ?_)
    obtain ⟨rfl, ⟨c_2, rfl⟩ | ⟨c_2, rfl⟩⟩ := hq9
    · skip
      refine g_if_ne 28 rfl rfl (fun _ => ?_) (fun hc => absurd hc (by decide))
      refine g_iload_n (i := 3) rfl rfl ?_
      have k_4 : (0 : Int32).toInt = 0 := rfl
      refine g_if_lt 37 rfl rfl (fun c_3 => ?_) (fun c_3 => ?_)
      · skip
        rw [i_lt, k_4] at c_3
        refine g_aload_n (i := 0) rfl rfl ?_
        refine g_bipush (n := (-5)) rfl ?_
        refine g_virt1 (Qc := fun r h' => r = some (.int ((Int8.ofInt (-5)).toInt32)) ∧ h' = h.set 43 (rFc (bump R 5))) rfl (by decide) rfl h0 rfl (Nat.le_of_ble_eq_true rfl) (s_refuse2 (X := 5) (by omega) h0 hR rfl (by decide)) (fun r h9 hq9 => ?_)
        obtain ⟨rfl, rfl⟩ := hq9
        refine g_ireturn (ty := .int) rfl rfl rfl ?_
        exact ⟨rfl, rfl⟩
      · skip
        rw [i_lt, k_4] at c_3
        refine g_iload_n (i := 3) rfl rfl ?_
        refine g_iconst (n := 3) rfl ?_
        have k_6 : (Int32.ofInt 3).toInt = 3 := rfl
        refine g_icmp_le 44 rfl rfl (fun c_5 => ?_) (fun c_5 => ?_)
        · skip
          rw [i_le, k_6] at c_5
          exfalso; omega
        · skip
          rw [i_le, k_6] at c_5
          refine g_aload_n (i := 0) rfl rfl ?_
          refine g_bipush (n := (-5)) rfl ?_
          refine g_virt1 (Qc := fun r h' => r = some (.int ((Int8.ofInt (-5)).toInt32)) ∧ h' = h.set 43 (rFc (bump R 5))) rfl (by decide) rfl h0 rfl (Nat.le_of_ble_eq_true rfl) (s_refuse2 (X := 5) (by omega) h0 hR rfl (by decide)) (fun r h9 hq9 => ?_)
          obtain ⟨rfl, rfl⟩ := hq9
          refine g_ireturn (ty := .int) rfl rfl rfl ?_
          exact ⟨rfl, rfl⟩
    · skip
      refine g_if_ne 28 rfl rfl (fun hc => absurd hc (by decide)) (fun _ => ?_)
      exfalso; omega
  · skip
    refine g_if_eq 22 rfl rfl (fun _ => ?_) (fun hc => absurd hc (by decide))
    exfalso; omega
theorem s_choose11_6 {d : Nat} {h : sHp} {ik tf : Int32} {R : Nat → Int32} {c : CF} {s : Sg} {x y w : Int32} (hd : 4 ≤ d) (h0 : h[0]? = some (cO ik tf)) (hR : h[43]? = some (rFc R)) (F : FC h 5 c) (sI : sgI c s) (hx : (0 ≤ x.toInt ∧ x.toInt < (s.2.2 : Int)) ∧ (0 ≤ y.toInt ∧ y.toInt < (s.2.2 : Int))) (hw : (0 ≤ w.toInt ∧ w.toInt ≤ 3)) (he : x.toInt = y.toInt) : sDo d 143 [.ref 0, .int x, .int y, .int w] h (fun r h' => r = some (.int (-6)) ∧ h' = h.set 43 (rFc (bump R 6))) := by
  have n5 := sI.2.2.2.2.2.2.2
  refine sDo_of1 (nL := 9) (L := [some (.ref 0), some (.int x), some (.int y), some (.int w), none, none, none, none, none]) (by omega) rfl rfl ?_
  refine g_aload_n (i := 0) rfl rfl ?_
  refine g_getfield (v := .ref 5) rfl h0 (by decide) rfl ?_
  refine g_iload_n (i := 1) rfl rfl ?_
  refine g_virt1 (Qc := fun r h' => h' = h ∧ (((0 ≤ (x).toInt ∧ (x).toInt < (s.2.2 : Int)) ∧ r = some (.int 1)) ∨ (¬ (0 ≤ (x).toInt ∧ (x).toInt < (s.2.2 : Int)) ∧ r = some (.int 0)))) rfl (by decide) rfl F.1 rfl (Nat.le_of_ble_eq_true rfl) (s_hr11 (by omega) F sI.2.2.1 n5) (fun r h hq9 => ?_)
  obtain ⟨rfl, ⟨c_1, rfl⟩ | ⟨c_1, rfl⟩⟩ := hq9
  · skip
    refine g_if_eq 22 rfl rfl (fun hc => absurd hc (by decide)) (fun _ => ?_)
    refine g_aload_n (i := 0) rfl rfl ?_
    refine g_getfield (v := .ref 5) rfl h0 (by decide) rfl ?_
    refine g_iload_n (i := 2) rfl rfl ?_
    refine g_virt1 (Qc := fun r h' => h' = h ∧ (((0 ≤ (y).toInt ∧ (y).toInt < (s.2.2 : Int)) ∧ r = some (.int 1)) ∨ (¬ (0 ≤ (y).toInt ∧ (y).toInt < (s.2.2 : Int)) ∧ r = some (.int 0)))) rfl (by decide) rfl F.1 rfl (Nat.le_of_ble_eq_true rfl) (s_hr11 (by omega) F sI.2.2.1 n5) (fun r h hq9 => ?_)
    obtain ⟨rfl, ⟨c_2, rfl⟩ | ⟨c_2, rfl⟩⟩ := hq9
    · skip
      refine g_if_ne 28 rfl rfl (fun _ => ?_) (fun hc => absurd hc (by decide))
      refine g_iload_n (i := 3) rfl rfl ?_
      have k_4 : (0 : Int32).toInt = 0 := rfl
      refine g_if_lt 37 rfl rfl (fun c_3 => ?_) (fun c_3 => ?_)
      · skip
        rw [i_lt, k_4] at c_3
        exfalso; omega
      · skip
        rw [i_lt, k_4] at c_3
        refine g_iload_n (i := 3) rfl rfl ?_
        refine g_iconst (n := 3) rfl ?_
        have k_6 : (Int32.ofInt 3).toInt = 3 := rfl
        refine g_icmp_le 44 rfl rfl (fun c_5 => ?_) (fun c_5 => ?_)
        · skip
          rw [i_le, k_6] at c_5
          refine g_iload_n (i := 1) rfl rfl ?_
          refine g_iload_n (i := 2) rfl rfl ?_
          refine g_icmp_ne 56 rfl rfl (fun c_7 => ?_) (fun c_7 => ?_)
          · skip
            rw [i_eq] at c_7
            exfalso; omega
          · skip
            rw [i_eq] at c_7
            refine g_aload_n (i := 0) rfl rfl ?_
            refine g_bipush (n := (-6)) rfl ?_
            refine g_virt1 (Qc := fun r h' => r = some (.int ((Int8.ofInt (-6)).toInt32)) ∧ h' = h.set 43 (rFc (bump R 6))) rfl (by decide) rfl h0 rfl (Nat.le_of_ble_eq_true rfl) (s_refuse2 (X := 6) (by omega) h0 hR rfl (by decide)) (fun r h9 hq9 => ?_)
            obtain ⟨rfl, rfl⟩ := hq9
            refine g_ireturn (ty := .int) rfl rfl rfl ?_
            exact ⟨rfl, rfl⟩
        · skip
          rw [i_le, k_6] at c_5
          exfalso; omega
    · skip
      refine g_if_ne 28 rfl rfl (fun hc => absurd hc (by decide)) (fun _ => ?_)
      exfalso; omega
  · skip
    refine g_if_eq 22 rfl rfl (fun _ => ?_) (fun hc => absurd hc (by decide))
    exfalso; omega
theorem RB_J {c : CF} {m : MF} {J2 : Nat → Int32} (r : RB c m) (hj : ∀ j, j ≠ 31 → J2 j = m.1 j) : RB c ((J2, m.2) : MF) := by
  obtain ⟨⟨W, H, N, a1, a2, a3, a4, a5, a6, a7⟩, r2⟩ := r
  refine ⟨⟨W, H, N, a1, a2, a3, (hj 0 (by decide)).trans a4, (hj 1 (by decide)).trans a5, (hj 6 (by decide)).trans a6, fun k hk => (a7 k hk).trans (hj (2 + k) (by omega)).symm⟩, fun s q => ⟨(r2 s q).1, fun k hk => ?_⟩⟩
  show okPl _ _ (J2 (2 + k)).toInt
  rw [hj (2 + k) (by omega)]
  exact (r2 s q).2 k hk
theorem wV_J {m : MF} {J2 : Nat → Int32} (hj : ∀ j, j ≠ 31 → J2 j = m.1 j) (n i : Nat) (x : Int64) : wV ((J2, m.2) : MF) n i x = wV m n i x := by
  have e : oakB ((J2, m.2) : MF) x = oakB m x := by
    unfold oakB
    rw [show ((J2, m.2) : MF).1 4 = m.1 4 from hj 4 (by decide)]
  unfold wV
  rw [e]
  rfl
theorem apW_J {m : MF} {J2 : Nat → Int32} (hj : ∀ j, j ≠ 31 → J2 j = m.1 j) (W n i : Nat) : apW ((J2, m.2) : MF) W n i = apW m W n i := funext fun C => by
  unfold apW
  rw [wV_J hj, wV_J hj]
theorem chV_J {m : MF} {J2 : Nat → Int32} (hj : ∀ j, j ≠ 31 → J2 j = m.1 j) (W n i j b : Nat) (k : Int) : chV ((J2, m.2) : MF) W n i j b k = chV m W n i j b k := by
  unfold chV
  rw [wV_J hj, wV_J hj, wV_J hj, wV_J hj]
theorem s_ch12_end {d : Nat} {h : sHp} {c : CF} {m : MF} {s : Sg} {i j b l k6 : Nat} {w : Int32} {o7 : Option Value} (hd : 4 ≤ d) (M : MC h m) (g : gdF c s.1 s.2.1) (gM : gdM m.1 s.1 s.2.1) (r : RB c m) (sI : sgI c s) (hi : i < s.2.2) (hj : j < s.2.2) (hw : 0 ≤ w.toInt ∧ w.toInt ≤ 3) (hb : b < 7000 ∧ ¬ b / 1000 = 3) : sGo none 237 d 161 [some (.ref 60), some (.int (Int32.ofNat i)), some (.int (Int32.ofNat j)), some (.int w), some (.int (Int32.ofNat b)), some (.int (Int32.ofNat l)), some (.int (Int32.ofNat k6)), o7] [] h (fun r h' => r = some (.int (chV m s.1 (s.1 * s.2.1) i j b w.toInt))) := by
  have hn := gdF_n g
  have n5 := sI.2.2.2.2.2.2.2
  have RS := (r.2 s sI).1
  have hcx : (Int32.ofNat b).toInt = ((b : Nat) : Int) := ofC_toInt (by omega)
  have eF := ofC_toInt (n := wV m (s.1 * s.2.1) j (fsS s.1 (s.1 * s.2.1) b)) (by have := wV_le (x := (fsS s.1 (s.1 * s.2.1) b)) hn.1 RS hj; omega)
  have eS := ofC_toInt (n := wV m (s.1 * s.2.1) j (sdS s.1 (s.1 * s.2.1) b 1)) (by have := wV_le (x := (sdS s.1 (s.1 * s.2.1) b 1)) hn.1 RS hj; omega)
  have sd0 : ∀ {d : Nat}, 2 ≤ d → sDo d 187 [.ref 60, .int (Int32.ofNat b), .int (Int32.ofInt 0)] h (fun r h' => h' = h ∧ r = some (.long ((fsS s.1 (s.1 * s.2.1) b)))) := fun hd => by
    rw [sdS_0 hn.1]
    exact s_sideOf12 (side := Int32.ofInt 0) hd M.1 gM hcx hb.1
  have sd1 : ∀ {d : Nat}, 2 ≤ d → sDo d 187 [.ref 60, .int (Int32.ofNat b), .int (Int32.ofInt 1)] h (fun r h' => h' = h ∧ r = some (.long ((sdS s.1 (s.1 * s.2.1) b 1)))) := fun hd => s_sideOf12 (side := Int32.ofInt 1) hd M.1 gM hcx hb.1
  refine g_aload_n (i := 0) rfl rfl ?_
  refine g_iload_n (i := 2) rfl rfl ?_
  refine g_aload_n (i := 0) rfl rfl ?_
  refine g_iload (i := 4) rfl rfl ?_
  refine g_iconst (n := 1) rfl ?_
  refine g_virt2 (Qc := fun r h' => h' = h ∧ r = some (.long ((sdS s.1 (s.1 * s.2.1) b 1)))) rfl (by decide) rfl M.1 rfl (Nat.le_of_ble_eq_true rfl) (sd1 (by omega)) (fun r h hq9 => ?_)
  obtain ⟨rfl, rfl⟩ := hq9
  refine g_virt2 (Qc := fun r h' => h' = h ∧ r = some (.int (Int32.ofNat (wV m (s.1 * s.2.1) j (sdS s.1 (s.1 * s.2.1) b 1))))) rfl (by decide) rfl M.1 rfl (Nat.le_of_ble_eq_true rfl) (s_worthOf12 (by omega) M g gM r sI hj) (fun r h hq9 => ?_)
  obtain ⟨rfl, rfl⟩ := hq9
  refine g_aload_n (i := 0) rfl rfl ?_
  refine g_iload_n (i := 2) rfl rfl ?_
  refine g_aload_n (i := 0) rfl rfl ?_
  refine g_iload (i := 4) rfl rfl ?_
  refine g_iconst (n := 0) rfl ?_
  refine g_virt2 (Qc := fun r h' => h' = h ∧ r = some (.long ((fsS s.1 (s.1 * s.2.1) b)))) rfl (by decide) rfl M.1 rfl (Nat.le_of_ble_eq_true rfl) (sd0 (by omega)) (fun r h hq9 => ?_)
  obtain ⟨rfl, rfl⟩ := hq9
  refine g_virt2 (Qc := fun r h' => h' = h ∧ r = some (.int (Int32.ofNat (wV m (s.1 * s.2.1) j (fsS s.1 (s.1 * s.2.1) b))))) rfl (by decide) rfl M.1 rfl (Nat.le_of_ble_eq_true rfl) (s_worthOf12 (by omega) M g gM r sI hj) (fun r h hq9 => ?_)
  obtain ⟨rfl, rfl⟩ := hq9
  refine g_icmp_le 192 rfl rfl (fun c_1 => ?_) (fun c_1 => ?_)
  · skip
    rw [i_le, eS, eF] at c_1
    refine g_iconst (n := 0) rfl ?_
    refine g_istore (i := 6) (L1 := [some (.ref 60), some (.int (Int32.ofNat i)), some (.int (Int32.ofNat j)), some (.int w), some (.int (Int32.ofNat b)), some (.int (Int32.ofNat l)), some (.int (Int32.ofInt 0)), o7]) rfl (Nat.le_of_ble_eq_true rfl) rfl ?_
    refine g_iload_n (i := 3) rfl rfl ?_
    have k_3 : (0 : Int32).toInt = 0 := rfl
    refine g_if_ne 204 rfl rfl (fun c_2 => ?_) (fun c_2 => ?_)
    · skip
      rw [i_eq, k_3] at c_2
      refine g_iload_n (i := 3) rfl rfl ?_
      refine g_iconst (n := 1) rfl ?_
      have k_5 : (Int32.ofInt 1).toInt = 1 := rfl
      refine g_icmp_ne 214 rfl rfl (fun c_4 => ?_) (fun c_4 => ?_)
      · skip
        rw [i_eq, k_5] at c_4
        refine g_iload_n (i := 3) rfl rfl ?_
        refine g_iconst (n := 2) rfl ?_
        have k_7 : (Int32.ofInt 2).toInt = 2 := rfl
        refine g_icmp_ne 235 rfl rfl (fun c_6 => ?_) (fun c_6 => ?_)
        · skip
          rw [i_eq, k_7] at c_6
          refine g_aload_n (i := 0) rfl rfl ?_
          refine g_iload_n (i := 1) rfl rfl ?_
          refine g_aload_n (i := 0) rfl rfl ?_
          refine g_iload (i := 4) rfl rfl ?_
          refine g_iconst (n := 1) rfl ?_
          refine g_iload (i := 6) rfl rfl ?_
          refine g_isub rfl ?_
          show sGo none 237 _ 244 [some (.ref 60), some (.int (Int32.ofNat i)), some (.int (Int32.ofNat j)), some (.int w), some (.int (Int32.ofNat b)), some (.int (Int32.ofNat l)), some (.int (Int32.ofInt 0)), o7] [.int (Int32.ofInt 1), .int (Int32.ofNat b), .ref 60, .int (Int32.ofNat i), .ref 60] _ _
          refine g_virt2 (Qc := fun r h' => h' = h ∧ r = some (.long ((sdS s.1 (s.1 * s.2.1) b 1)))) rfl (by decide) rfl M.1 rfl (Nat.le_of_ble_eq_true rfl) (sd1 (by omega)) (fun r h hq9 => ?_)
          obtain ⟨rfl, rfl⟩ := hq9
          refine g_virt2 (Qc := fun r h' => h' = h ∧ r = some (.int (Int32.ofNat (wV m (s.1 * s.2.1) i (sdS s.1 (s.1 * s.2.1) b 1))))) rfl (by decide) rfl M.1 rfl (Nat.le_of_ble_eq_true rfl) (s_worthOf12 (by omega) M g gM r sI hi) (fun r h hq9 => ?_)
          obtain ⟨rfl, rfl⟩ := hq9
          refine g_ireturn (ty := .int) rfl rfl rfl ?_
          rw [chV_n (show ¬ w.toInt = 0 by omega) (show ¬ wV m (s.1 * s.2.1) j (fsS s.1 (s.1 * s.2.1) b) < wV m (s.1 * s.2.1) j (sdS s.1 (s.1 * s.2.1) b 1) by omega), if_neg (show ¬ w.toInt = 1 by omega), if_neg (show ¬ w.toInt = 2 by omega)]
        · skip
          rw [i_eq, k_7] at c_6
          refine g_aload_n (i := 0) rfl rfl ?_
          refine g_iload_n (i := 2) rfl rfl ?_
          refine g_aload_n (i := 0) rfl rfl ?_
          refine g_iload (i := 4) rfl rfl ?_
          refine g_iload (i := 6) rfl rfl ?_
          refine g_virt2 (Qc := fun r h' => h' = h ∧ r = some (.long ((fsS s.1 (s.1 * s.2.1) b)))) rfl (by decide) rfl M.1 rfl (Nat.le_of_ble_eq_true rfl) (sd0 (by omega)) (fun r h hq9 => ?_)
          obtain ⟨rfl, rfl⟩ := hq9
          refine g_virt2 (Qc := fun r h' => h' = h ∧ r = some (.int (Int32.ofNat (wV m (s.1 * s.2.1) j (fsS s.1 (s.1 * s.2.1) b))))) rfl (by decide) rfl M.1 rfl (Nat.le_of_ble_eq_true rfl) (s_worthOf12 (by omega) M g gM r sI hj) (fun r h hq9 => ?_)
          obtain ⟨rfl, rfl⟩ := hq9
          refine g_goto 250 rfl rfl ?_
          refine g_ireturn (ty := .int) rfl rfl rfl ?_
          rw [chV_n (show ¬ w.toInt = 0 by omega) (show ¬ wV m (s.1 * s.2.1) j (fsS s.1 (s.1 * s.2.1) b) < wV m (s.1 * s.2.1) j (sdS s.1 (s.1 * s.2.1) b 1) by omega), if_neg (show ¬ w.toInt = 1 by omega), if_pos (show w.toInt = 2 by omega)]
      · skip
        rw [i_eq, k_5] at c_4
        refine g_iload (i := 6) rfl rfl ?_
        refine g_goto 250 rfl rfl ?_
        refine g_ireturn (ty := .int) rfl rfl rfl ?_
        rw [chV_n (show ¬ w.toInt = 0 by omega) (show ¬ wV m (s.1 * s.2.1) j (fsS s.1 (s.1 * s.2.1) b) < wV m (s.1 * s.2.1) j (sdS s.1 (s.1 * s.2.1) b 1) by omega), if_pos (show w.toInt = 1 by omega)]; rfl
    · skip
      rw [i_eq, k_3] at c_2
      refine g_iload (i := 4) rfl rfl ?_
      refine g_goto 250 rfl rfl ?_
      refine g_ireturn (ty := .int) rfl rfl rfl ?_
      rw [chV_0 (show w.toInt = 0 by omega)]
  · skip
    rw [i_le, eS, eF] at c_1
    refine g_iconst (n := 1) rfl ?_
    refine g_goto 193 rfl rfl ?_
    refine g_istore (i := 6) (L1 := [some (.ref 60), some (.int (Int32.ofNat i)), some (.int (Int32.ofNat j)), some (.int w), some (.int (Int32.ofNat b)), some (.int (Int32.ofNat l)), some (.int (Int32.ofInt 1)), o7]) rfl (Nat.le_of_ble_eq_true rfl) rfl ?_
    refine g_iload_n (i := 3) rfl rfl ?_
    have k_9 : (0 : Int32).toInt = 0 := rfl
    refine g_if_ne 204 rfl rfl (fun c_8 => ?_) (fun c_8 => ?_)
    · skip
      rw [i_eq, k_9] at c_8
      refine g_iload_n (i := 3) rfl rfl ?_
      refine g_iconst (n := 1) rfl ?_
      have k_11 : (Int32.ofInt 1).toInt = 1 := rfl
      refine g_icmp_ne 214 rfl rfl (fun c_10 => ?_) (fun c_10 => ?_)
      · skip
        rw [i_eq, k_11] at c_10
        refine g_iload_n (i := 3) rfl rfl ?_
        refine g_iconst (n := 2) rfl ?_
        have k_13 : (Int32.ofInt 2).toInt = 2 := rfl
        refine g_icmp_ne 235 rfl rfl (fun c_12 => ?_) (fun c_12 => ?_)
        · skip
          rw [i_eq, k_13] at c_12
          refine g_aload_n (i := 0) rfl rfl ?_
          refine g_iload_n (i := 1) rfl rfl ?_
          refine g_aload_n (i := 0) rfl rfl ?_
          refine g_iload (i := 4) rfl rfl ?_
          refine g_iconst (n := 1) rfl ?_
          refine g_iload (i := 6) rfl rfl ?_
          refine g_isub rfl ?_
          show sGo none 237 _ 244 [some (.ref 60), some (.int (Int32.ofNat i)), some (.int (Int32.ofNat j)), some (.int w), some (.int (Int32.ofNat b)), some (.int (Int32.ofNat l)), some (.int (Int32.ofInt 1)), o7] [.int (Int32.ofInt 0), .int (Int32.ofNat b), .ref 60, .int (Int32.ofNat i), .ref 60] _ _
          refine g_virt2 (Qc := fun r h' => h' = h ∧ r = some (.long ((fsS s.1 (s.1 * s.2.1) b)))) rfl (by decide) rfl M.1 rfl (Nat.le_of_ble_eq_true rfl) (sd0 (by omega)) (fun r h hq9 => ?_)
          obtain ⟨rfl, rfl⟩ := hq9
          refine g_virt2 (Qc := fun r h' => h' = h ∧ r = some (.int (Int32.ofNat (wV m (s.1 * s.2.1) i (fsS s.1 (s.1 * s.2.1) b))))) rfl (by decide) rfl M.1 rfl (Nat.le_of_ble_eq_true rfl) (s_worthOf12 (by omega) M g gM r sI hi) (fun r h hq9 => ?_)
          obtain ⟨rfl, rfl⟩ := hq9
          refine g_ireturn (ty := .int) rfl rfl rfl ?_
          rw [chV_y (show ¬ w.toInt = 0 by omega) (show wV m (s.1 * s.2.1) j (fsS s.1 (s.1 * s.2.1) b) < wV m (s.1 * s.2.1) j (sdS s.1 (s.1 * s.2.1) b 1) by omega), if_neg (show ¬ w.toInt = 1 by omega), if_neg (show ¬ w.toInt = 2 by omega)]
        · skip
          rw [i_eq, k_13] at c_12
          refine g_aload_n (i := 0) rfl rfl ?_
          refine g_iload_n (i := 2) rfl rfl ?_
          refine g_aload_n (i := 0) rfl rfl ?_
          refine g_iload (i := 4) rfl rfl ?_
          refine g_iload (i := 6) rfl rfl ?_
          refine g_virt2 (Qc := fun r h' => h' = h ∧ r = some (.long ((sdS s.1 (s.1 * s.2.1) b 1)))) rfl (by decide) rfl M.1 rfl (Nat.le_of_ble_eq_true rfl) (sd1 (by omega)) (fun r h hq9 => ?_)
          obtain ⟨rfl, rfl⟩ := hq9
          refine g_virt2 (Qc := fun r h' => h' = h ∧ r = some (.int (Int32.ofNat (wV m (s.1 * s.2.1) j (sdS s.1 (s.1 * s.2.1) b 1))))) rfl (by decide) rfl M.1 rfl (Nat.le_of_ble_eq_true rfl) (s_worthOf12 (by omega) M g gM r sI hj) (fun r h hq9 => ?_)
          obtain ⟨rfl, rfl⟩ := hq9
          refine g_goto 250 rfl rfl ?_
          refine g_ireturn (ty := .int) rfl rfl rfl ?_
          rw [chV_y (show ¬ w.toInt = 0 by omega) (show wV m (s.1 * s.2.1) j (fsS s.1 (s.1 * s.2.1) b) < wV m (s.1 * s.2.1) j (sdS s.1 (s.1 * s.2.1) b 1) by omega), if_neg (show ¬ w.toInt = 1 by omega), if_pos (show w.toInt = 2 by omega)]
      · skip
        rw [i_eq, k_11] at c_10
        refine g_iload (i := 6) rfl rfl ?_
        refine g_goto 250 rfl rfl ?_
        refine g_ireturn (ty := .int) rfl rfl rfl ?_
        rw [chV_y (show ¬ w.toInt = 0 by omega) (show wV m (s.1 * s.2.1) j (fsS s.1 (s.1 * s.2.1) b) < wV m (s.1 * s.2.1) j (sdS s.1 (s.1 * s.2.1) b 1) by omega), if_pos (show w.toInt = 1 by omega)]; rfl
    · skip
      rw [i_eq, k_9] at c_8
      refine g_iload (i := 4) rfl rfl ?_
      refine g_goto 250 rfl rfl ?_
      refine g_ireturn (ty := .int) rfl rfl rfl ?_
      rw [chV_0 (show w.toInt = 0 by omega)]
theorem s_choose12 {d : Nat} {h : sHp} {c : CF} {m : MF} {s : Sg} {fc : Nat → Int32} {i j b l : Nat} {w : Int32} (hd : 6 ≤ d) (M : MC h m) (g : gdF c s.1 s.2.1) (gM : gdM m.1 s.1 s.2.1) (r : RB c m) (sI : sgI c s) (sJ : sgJ m.1 s) (h76 : h[76]? = some (.inl (0, 1000, .inl fc))) (hi : i < s.2.2) (hj : j < s.2.2) (hij : ¬ i = j) (hw : 0 ≤ w.toInt ∧ w.toInt ≤ 3) (hfin : chF (apW m s.1 (s.1 * s.2.1) i) (lsT s.1 s.2.1 true false) none = some (b, l)) (hb : b < 7000 ∧ ¬ b / 1000 = 3) : sDo d 237 [.ref 60, .int (Int32.ofNat i), .int (Int32.ofNat j), .int w] h (fun rv h' => rv = some (.int (chV m s.1 (s.1 * s.2.1) i j b w.toInt))) := by
  have n5 := sI.2.2.2.2.2.2.2
  have w8 := gM.2.2.2.1
  have h8 := gM.2.2.2.2.2
  have ei := ofN_toInt (n := i) (by omega)
  have ej := ofN_toInt (n := j) (by omega)
  refine sDo_of1 (nL := 8) (L := [some (.ref 60), some (.int (Int32.ofNat i)), some (.int (Int32.ofNat j)), some (.int w), none, none, none, none]) (by omega) rfl rfl ?_
  refine g_aload_n (i := 0) rfl rfl ?_
  refine g_iload_n (i := 1) rfl rfl ?_
  refine g_virt1 (Qc := fun r h' => h' = h ∧ (((0 ≤ (Int32.ofNat i).toInt ∧ (Int32.ofNat i).toInt < (s.2.2 : Int)) ∧ r = some (.int 1)) ∨ (¬ (0 ≤ (Int32.ofNat i).toInt ∧ (Int32.ofNat i).toInt < (s.2.2 : Int)) ∧ r = some (.int 0)))) rfl (by decide) rfl M.1 rfl (Nat.le_of_ble_eq_true rfl) (s_hr12 (by omega) M.1 sJ.2.2.1 n5) (fun r h hq9 => ?_)
  obtain ⟨rfl, ⟨c_1, rfl⟩ | ⟨c_1, rfl⟩⟩ := hq9
  · skip
    refine g_if_eq 16 rfl rfl (fun hc => absurd hc (by decide)) (fun _ => ?_)
    refine g_aload_n (i := 0) rfl rfl ?_
    refine g_iload_n (i := 2) rfl rfl ?_
    refine g_virt1 (Qc := fun r h' => h' = h ∧ (((0 ≤ (Int32.ofNat j).toInt ∧ (Int32.ofNat j).toInt < (s.2.2 : Int)) ∧ r = some (.int 1)) ∨ (¬ (0 ≤ (Int32.ofNat j).toInt ∧ (Int32.ofNat j).toInt < (s.2.2 : Int)) ∧ r = some (.int 0)))) rfl (by decide) rfl M.1 rfl (Nat.le_of_ble_eq_true rfl) (s_hr12 (by omega) M.1 sJ.2.2.1 n5) (fun r h hq9 => ?_)
    obtain ⟨rfl, ⟨c_2, rfl⟩ | ⟨c_2, rfl⟩⟩ := hq9
    · skip
      refine g_if_ne 22 rfl rfl (fun _ => ?_) (fun hc => absurd hc (by decide))
      refine g_iload_n (i := 3) rfl rfl ?_
      have k_4 : (0 : Int32).toInt = 0 := rfl
      refine g_if_lt 31 rfl rfl (fun c_3 => ?_) (fun c_3 => ?_)
      · skip
        rw [i_lt, k_4] at c_3
        exfalso; omega
      · skip
        rw [i_lt, k_4] at c_3
        refine g_iload_n (i := 3) rfl rfl ?_
        refine g_iconst (n := 3) rfl ?_
        have k_6 : (Int32.ofInt 3).toInt = 3 := rfl
        refine g_icmp_le 38 rfl rfl (fun c_5 => ?_) (fun c_5 => ?_)
        · skip
          rw [i_le, k_6] at c_5
          refine g_iload_n (i := 1) rfl rfl ?_
          refine g_iload_n (i := 2) rfl rfl ?_
          refine g_icmp_ne 50 rfl rfl (fun c_7 => ?_) (fun c_7 => ?_)
          · skip
            rw [i_eq, ei, ej] at c_7
            refine g_aload_n (i := 0) rfl rfl ?_
            refine g_bipush (n := 22) rfl ?_
            have hls := s_lists12 (d := d - 1) (kd := (Int8.ofInt 22).toInt32) (b4 := true) (b32 := false) (by omega) gM M.1 h76 (by decide) (by decide) (by decide) (by decide)
            refine g_virt1 rfl (by decide) rfl M.1 rfl (Nat.le_of_ble_eq_true rfl) hls (fun r h2 hq => ?_)
            obtain ⟨rfl, ⟨J2, fc2, hr2, b2, j31, g76, p1⟩, E2⟩ := hq
            have gM2 : gdM J2 s.1 s.2.1 := ⟨(b2 0 (by decide)).trans gM.1, (b2 1 (by decide)).trans gM.2.1, gM.2.2⟩
            have M2 : MC h2 ((J2, m.2) : MF) := ⟨hr2, (E2.2 62 (by decide) (by decide)).trans M.2.1, (E2.2 63 (by decide) (by decide)).trans M.2.2.1, (E2.2 64 (by decide) (by decide)).trans M.2.2.2.1, (E2.2 65 (by decide) (by decide)).trans M.2.2.2.2.1, (E2.2 66 (by decide) (by decide)).trans M.2.2.2.2.2⟩
            have r2 : RB c ((J2, m.2) : MF) := RB_J r b2
            rw [← apW_J b2] at hfin
            rw [← chV_J b2]
            refine g_iconst (n := (-1)) rfl ?_
            refine g_istore (i := 4) (L1 := [some (.ref 60), some (.int (Int32.ofNat i)), some (.int (Int32.ofNat j)), some (.int w), some (.int (Int32.ofInt (-1))), none, none, none]) rfl (Nat.le_of_ble_eq_true rfl) rfl ?_
            refine g_iconst (n := 0) rfl ?_
            refine g_istore (i := 5) (L1 := [some (.ref 60), some (.int (Int32.ofNat i)), some (.int (Int32.ofNat j)), some (.int w), some (.int (Int32.ofInt (-1))), some (.int (Int32.ofInt 0)), none, none]) rfl (Nat.le_of_ble_eq_true rfl) rfl ?_
            refine g_iconst (n := 0) rfl ?_
            refine g_istore (i := 6) (L1 := [some (.ref 60), some (.int (Int32.ofNat i)), some (.int (Int32.ofNat j)), some (.int w), some (.int (Int32.ofInt (-1))), some (.int (Int32.ofInt 0)), some (.int (Int32.ofInt 0)), none]) rfl (Nat.le_of_ble_eq_true rfl) rfl ?_
            exact s_ch12_go (d := d - 1) (fin := some (b, l)) (by omega) g M2 gM2 r2 sI hi (ls_k2 w8 h8) (ls_len w8 h8) j31 g76 p1 (fun o7 => s_ch12_end (d := d - 1) (k6 := ((lsT s.1 s.2.1 true false)).length) (by omega) M2 g gM2 r2 sI hi hj hw hb) (lsT s.1 s.2.1 true false) [] none none rfl (fun _ _ z => by cases z) hfin
          · skip
            rw [i_eq, ei, ej] at c_7
            exfalso; omega
        · skip
          rw [i_le, k_6] at c_5
          exfalso; omega
    · skip
      refine g_if_ne 22 rfl rfl (fun hc => absurd hc (by decide)) (fun _ => ?_)
      exfalso; omega
  · skip
    refine g_if_eq 16 rfl rfl (fun _ => ?_) (fun hc => absurd hc (by decide))
    exfalso; omega
theorem s_choose12_1 {d : Nat} {h : sHp} {R : Nat → Int32} {m : MF} {s : Sg} {x y w : Int32} (hd : 4 ≤ d) (M : MC h m) (hR : h[61]? = some (rFc R)) (sJ : sgJ m.1 s) (hx : ¬ ((0 ≤ x.toInt ∧ x.toInt < (s.2.2 : Int)) ∧ (0 ≤ y.toInt ∧ y.toInt < (s.2.2 : Int)))) : sDo d 237 [.ref 60, .int x, .int y, .int w] h (fun r h' => r = some (.int (-1)) ∧ h' = h.set 61 (rFc (bump R 1))) := by
  have n5 := sJ.2.2.2.2.2.2.2
  refine sDo_of1 (nL := 8) (L := [some (.ref 60), some (.int x), some (.int y), some (.int w), none, none, none, none]) (by omega) rfl rfl ?_
  refine g_aload_n (i := 0) rfl rfl ?_
  refine g_iload_n (i := 1) rfl rfl ?_
  refine g_virt1 (Qc := fun r h' => h' = h ∧ (((0 ≤ (x).toInt ∧ (x).toInt < (s.2.2 : Int)) ∧ r = some (.int 1)) ∨ (¬ (0 ≤ (x).toInt ∧ (x).toInt < (s.2.2 : Int)) ∧ r = some (.int 0)))) rfl (by decide) rfl M.1 rfl (Nat.le_of_ble_eq_true rfl) (s_hr12 (by omega) M.1 sJ.2.2.1 n5) (fun r h hq9 => ?_)
  obtain ⟨rfl, ⟨c_1, rfl⟩ | ⟨c_1, rfl⟩⟩ := hq9
  · skip
    refine g_if_eq 16 rfl rfl (fun hc => absurd hc (by decide)) (fun _ => ?_)
    refine g_aload_n (i := 0) rfl rfl ?_
    refine g_iload_n (i := 2) rfl rfl ?_
    refine g_virt1 (Qc := fun r h' => h' = h ∧ (((0 ≤ (y).toInt ∧ (y).toInt < (s.2.2 : Int)) ∧ r = some (.int 1)) ∨ (¬ (0 ≤ (y).toInt ∧ (y).toInt < (s.2.2 : Int)) ∧ r = some (.int 0)))) rfl (by decide) rfl M.1 rfl (Nat.le_of_ble_eq_true rfl) (s_hr12 (by omega) M.1 sJ.2.2.1 n5) (fun r h hq9 => ?_)
    obtain ⟨rfl, ⟨c_2, rfl⟩ | ⟨c_2, rfl⟩⟩ := hq9
    · skip
      refine g_if_ne 22 rfl rfl (fun _ => ?_) (fun hc => absurd hc (by decide))
      exfalso; omega
    · skip
      refine g_if_ne 22 rfl rfl (fun hc => absurd hc (by decide)) (fun _ => ?_)
      refine g_aload_n (i := 0) rfl rfl ?_
      refine g_iconst (n := (-1)) rfl ?_
      refine g_virt1 (Qc := fun r h' => r = some (.int ((Int32.ofInt (-1)))) ∧ h' = h.set 61 (rFc (bump R 1))) rfl (by decide) rfl M.1 rfl (Nat.le_of_ble_eq_true rfl) (s_no2 (X := 1) (by omega) M.1 hR rfl (by decide)) (fun r h9 hq9 => ?_)
      obtain ⟨rfl, rfl⟩ := hq9
      refine g_ireturn (ty := .int) rfl rfl rfl ?_
      exact ⟨rfl, rfl⟩
  · skip
    refine g_if_eq 16 rfl rfl (fun _ => ?_) (fun hc => absurd hc (by decide))
    refine g_aload_n (i := 0) rfl rfl ?_
    refine g_iconst (n := (-1)) rfl ?_
    refine g_virt1 (Qc := fun r h' => r = some (.int ((Int32.ofInt (-1)))) ∧ h' = h.set 61 (rFc (bump R 1))) rfl (by decide) rfl M.1 rfl (Nat.le_of_ble_eq_true rfl) (s_no2 (X := 1) (by omega) M.1 hR rfl (by decide)) (fun r h9 hq9 => ?_)
    obtain ⟨rfl, rfl⟩ := hq9
    refine g_ireturn (ty := .int) rfl rfl rfl ?_
    exact ⟨rfl, rfl⟩
theorem s_choose12_5 {d : Nat} {h : sHp} {R : Nat → Int32} {m : MF} {s : Sg} {x y w : Int32} (hd : 4 ≤ d) (M : MC h m) (hR : h[61]? = some (rFc R)) (sJ : sgJ m.1 s) (hx : (0 ≤ x.toInt ∧ x.toInt < (s.2.2 : Int)) ∧ (0 ≤ y.toInt ∧ y.toInt < (s.2.2 : Int))) (hw : ¬ (0 ≤ w.toInt ∧ w.toInt ≤ 3)) : sDo d 237 [.ref 60, .int x, .int y, .int w] h (fun r h' => r = some (.int (-5)) ∧ h' = h.set 61 (rFc (bump R 5))) := by
  have n5 := sJ.2.2.2.2.2.2.2
  refine sDo_of1 (nL := 8) (L := [some (.ref 60), some (.int x), some (.int y), some (.int w), none, none, none, none]) (by omega) rfl rfl ?_
  refine g_aload_n (i := 0) rfl rfl ?_
  refine g_iload_n (i := 1) rfl rfl ?_
  refine g_virt1 (Qc := fun r h' => h' = h ∧ (((0 ≤ (x).toInt ∧ (x).toInt < (s.2.2 : Int)) ∧ r = some (.int 1)) ∨ (¬ (0 ≤ (x).toInt ∧ (x).toInt < (s.2.2 : Int)) ∧ r = some (.int 0)))) rfl (by decide) rfl M.1 rfl (Nat.le_of_ble_eq_true rfl) (s_hr12 (by omega) M.1 sJ.2.2.1 n5) (fun r h hq9 => ?_)
  obtain ⟨rfl, ⟨c_1, rfl⟩ | ⟨c_1, rfl⟩⟩ := hq9
  · skip
    refine g_if_eq 16 rfl rfl (fun hc => absurd hc (by decide)) (fun _ => ?_)
    refine g_aload_n (i := 0) rfl rfl ?_
    refine g_iload_n (i := 2) rfl rfl ?_
    refine g_virt1 (Qc := fun r h' => h' = h ∧ (((0 ≤ (y).toInt ∧ (y).toInt < (s.2.2 : Int)) ∧ r = some (.int 1)) ∨ (¬ (0 ≤ (y).toInt ∧ (y).toInt < (s.2.2 : Int)) ∧ r = some (.int 0)))) rfl (by decide) rfl M.1 rfl (Nat.le_of_ble_eq_true rfl) (s_hr12 (by omega) M.1 sJ.2.2.1 n5) (fun r h hq9 => ?_)
    obtain ⟨rfl, ⟨c_2, rfl⟩ | ⟨c_2, rfl⟩⟩ := hq9
    · skip
      refine g_if_ne 22 rfl rfl (fun _ => ?_) (fun hc => absurd hc (by decide))
      refine g_iload_n (i := 3) rfl rfl ?_
      have k_4 : (0 : Int32).toInt = 0 := rfl
      refine g_if_lt 31 rfl rfl (fun c_3 => ?_) (fun c_3 => ?_)
      · skip
        rw [i_lt, k_4] at c_3
        refine g_aload_n (i := 0) rfl rfl ?_
        refine g_bipush (n := (-5)) rfl ?_
        refine g_virt1 (Qc := fun r h' => r = some (.int ((Int8.ofInt (-5)).toInt32)) ∧ h' = h.set 61 (rFc (bump R 5))) rfl (by decide) rfl M.1 rfl (Nat.le_of_ble_eq_true rfl) (s_no2 (X := 5) (by omega) M.1 hR rfl (by decide)) (fun r h9 hq9 => ?_)
        obtain ⟨rfl, rfl⟩ := hq9
        refine g_ireturn (ty := .int) rfl rfl rfl ?_
        exact ⟨rfl, rfl⟩
      · skip
        rw [i_lt, k_4] at c_3
        refine g_iload_n (i := 3) rfl rfl ?_
        refine g_iconst (n := 3) rfl ?_
        have k_6 : (Int32.ofInt 3).toInt = 3 := rfl
        refine g_icmp_le 38 rfl rfl (fun c_5 => ?_) (fun c_5 => ?_)
        · skip
          rw [i_le, k_6] at c_5
          exfalso; omega
        · skip
          rw [i_le, k_6] at c_5
          refine g_aload_n (i := 0) rfl rfl ?_
          refine g_bipush (n := (-5)) rfl ?_
          refine g_virt1 (Qc := fun r h' => r = some (.int ((Int8.ofInt (-5)).toInt32)) ∧ h' = h.set 61 (rFc (bump R 5))) rfl (by decide) rfl M.1 rfl (Nat.le_of_ble_eq_true rfl) (s_no2 (X := 5) (by omega) M.1 hR rfl (by decide)) (fun r h9 hq9 => ?_)
          obtain ⟨rfl, rfl⟩ := hq9
          refine g_ireturn (ty := .int) rfl rfl rfl ?_
          exact ⟨rfl, rfl⟩
    · skip
      refine g_if_ne 22 rfl rfl (fun hc => absurd hc (by decide)) (fun _ => ?_)
      exfalso; omega
  · skip
    refine g_if_eq 16 rfl rfl (fun _ => ?_) (fun hc => absurd hc (by decide))
    exfalso; omega
theorem s_choose12_6 {d : Nat} {h : sHp} {R : Nat → Int32} {m : MF} {s : Sg} {x y w : Int32} (hd : 4 ≤ d) (M : MC h m) (hR : h[61]? = some (rFc R)) (sJ : sgJ m.1 s) (hx : (0 ≤ x.toInt ∧ x.toInt < (s.2.2 : Int)) ∧ (0 ≤ y.toInt ∧ y.toInt < (s.2.2 : Int))) (hw : (0 ≤ w.toInt ∧ w.toInt ≤ 3)) (he : x.toInt = y.toInt) : sDo d 237 [.ref 60, .int x, .int y, .int w] h (fun r h' => r = some (.int (-6)) ∧ h' = h.set 61 (rFc (bump R 6))) := by
  have n5 := sJ.2.2.2.2.2.2.2
  refine sDo_of1 (nL := 8) (L := [some (.ref 60), some (.int x), some (.int y), some (.int w), none, none, none, none]) (by omega) rfl rfl ?_
  refine g_aload_n (i := 0) rfl rfl ?_
  refine g_iload_n (i := 1) rfl rfl ?_
  refine g_virt1 (Qc := fun r h' => h' = h ∧ (((0 ≤ (x).toInt ∧ (x).toInt < (s.2.2 : Int)) ∧ r = some (.int 1)) ∨ (¬ (0 ≤ (x).toInt ∧ (x).toInt < (s.2.2 : Int)) ∧ r = some (.int 0)))) rfl (by decide) rfl M.1 rfl (Nat.le_of_ble_eq_true rfl) (s_hr12 (by omega) M.1 sJ.2.2.1 n5) (fun r h hq9 => ?_)
  obtain ⟨rfl, ⟨c_1, rfl⟩ | ⟨c_1, rfl⟩⟩ := hq9
  · skip
    refine g_if_eq 16 rfl rfl (fun hc => absurd hc (by decide)) (fun _ => ?_)
    refine g_aload_n (i := 0) rfl rfl ?_
    refine g_iload_n (i := 2) rfl rfl ?_
    refine g_virt1 (Qc := fun r h' => h' = h ∧ (((0 ≤ (y).toInt ∧ (y).toInt < (s.2.2 : Int)) ∧ r = some (.int 1)) ∨ (¬ (0 ≤ (y).toInt ∧ (y).toInt < (s.2.2 : Int)) ∧ r = some (.int 0)))) rfl (by decide) rfl M.1 rfl (Nat.le_of_ble_eq_true rfl) (s_hr12 (by omega) M.1 sJ.2.2.1 n5) (fun r h hq9 => ?_)
    obtain ⟨rfl, ⟨c_2, rfl⟩ | ⟨c_2, rfl⟩⟩ := hq9
    · skip
      refine g_if_ne 22 rfl rfl (fun _ => ?_) (fun hc => absurd hc (by decide))
      refine g_iload_n (i := 3) rfl rfl ?_
      have k_4 : (0 : Int32).toInt = 0 := rfl
      refine g_if_lt 31 rfl rfl (fun c_3 => ?_) (fun c_3 => ?_)
      · skip
        rw [i_lt, k_4] at c_3
        exfalso; omega
      · skip
        rw [i_lt, k_4] at c_3
        refine g_iload_n (i := 3) rfl rfl ?_
        refine g_iconst (n := 3) rfl ?_
        have k_6 : (Int32.ofInt 3).toInt = 3 := rfl
        refine g_icmp_le 38 rfl rfl (fun c_5 => ?_) (fun c_5 => ?_)
        · skip
          rw [i_le, k_6] at c_5
          refine g_iload_n (i := 1) rfl rfl ?_
          refine g_iload_n (i := 2) rfl rfl ?_
          refine g_icmp_ne 50 rfl rfl (fun c_7 => ?_) (fun c_7 => ?_)
          · skip
            rw [i_eq] at c_7
            exfalso; omega
          · skip
            rw [i_eq] at c_7
            refine g_aload_n (i := 0) rfl rfl ?_
            refine g_bipush (n := (-6)) rfl ?_
            refine g_virt1 (Qc := fun r h' => r = some (.int ((Int8.ofInt (-6)).toInt32)) ∧ h' = h.set 61 (rFc (bump R 6))) rfl (by decide) rfl M.1 rfl (Nat.le_of_ble_eq_true rfl) (s_no2 (X := 6) (by omega) M.1 hR rfl (by decide)) (fun r h9 hq9 => ?_)
            obtain ⟨rfl, rfl⟩ := hq9
            refine g_ireturn (ty := .int) rfl rfl rfl ?_
            exact ⟨rfl, rfl⟩
        · skip
          rw [i_le, k_6] at c_5
          exfalso; omega
    · skip
      refine g_if_ne 22 rfl rfl (fun hc => absurd hc (by decide)) (fun _ => ?_)
      exfalso; omega
  · skip
    refine g_if_eq 16 rfl rfl (fun _ => ?_) (fun hc => absurd hc (by decide))
    exfalso; omega
theorem SO_of2 {h : sHp} (hH : bH h) : ∃ (B : Nat → Int32) (S1 S2 : Int64) (fc : Nat → Int32) (ff : Nat → Int64), h[38]? = some (sO B S1 S2) ∧ h[39]? = some (.inl (0, 644, .inl fc)) ∧ h[40]? = some (.inl (1, 644, .inr (.inl ff))) := by
  obtain ⟨fs, hf, hl, ht⟩ := bFldK hH (p := 38) (by decide) rfl
  obtain ⟨v0, e0, t0⟩ := ht 0 _ rfl
  obtain ⟨x0, rfl, -, -⟩ := bT_int t0
  obtain ⟨v1, e1, t1⟩ := ht 1 _ rfl
  obtain ⟨x1, rfl, -, -⟩ := bT_int t1
  obtain ⟨v2, e2, t2⟩ := ht 2 _ rfl
  obtain ⟨x2, rfl⟩ := t2
  obtain ⟨v3, e3, t3⟩ := ht 3 _ rfl
  obtain ⟨x3, rfl⟩ := t3
  obtain ⟨v4, e4, t4⟩ := ht 4 _ rfl
  obtain ⟨x4, rfl, -, -⟩ := bT_int t4
  obtain ⟨v5, e5, t5⟩ := ht 5 _ rfl
  obtain ⟨x5, rfl, -, -⟩ := bT_int t5
  obtain ⟨v6, e6, t6⟩ := ht 6 _ rfl
  obtain ⟨x6, rfl, -, -⟩ := bT_int t6
  obtain ⟨v7, e7, t7⟩ := ht 7 _ rfl
  have r7 := bT_one (by decide) (by decide +kernel) t7
  subst r7
  obtain ⟨v8, e8, t8⟩ := ht 8 _ rfl
  have r8 := bT_one (by decide) (by decide +kernel) t8
  subst r8
  obtain ⟨v9, e9, t9⟩ := ht 9 _ rfl
  have r9 := bT_one (by decide) (by decide +kernel) t9
  subst r9
  have e : fs = [.int x0, .int x1, .long x2, .long x3, .int x4, .int x5, .int x6, .ref 39, .ref 40, .ref 41] := List.ext_getElem? (fun j => match j with
    | 0 => e0
    | 1 => e1
    | 2 => e2
    | 3 => e3
    | 4 => e4
    | 5 => e5
    | 6 => e6
    | 7 => e7
    | 8 => e8
    | 9 => e9
    | n + 10 => by rw [List.getElem?_eq_none (by rw [hl]; show 10 ≤ n + 10; omega)]; rfl)
  subst e
  obtain ⟨fc, a1, -, -⟩ := bA60 hH (p := 39) (by decide) rfl
  obtain ⟨ff, a2⟩ := bA60L hH (p := 40) (by decide) rfl
  exact ⟨(fun j => match j with | 0 => x0 | 1 => x1 | 4 => x4 | 5 => x5 | 6 => x6 | _ => 0), x2, x3, fc, ff, hf, a1, a2⟩
theorem pr8_choose (x : Int32) (y : Int32) (w : Int32) : pairR bR8 143 237 [.int x, .int y, .int w] := pr_qR (c1 := cn_X11_choose_0) (c2 := cn_X12_choose_0) ch_X11_choose_0 ch_X12_choose_0 (by decide +kernel) (by decide +kernel) (by decide +kernel) (by decide +kernel) rfl rfl (fun h hH => ⟨bt0 hH, vI0 x, vI0 y, vI0 w, trivial⟩) (fun h hH => ⟨bt60 hH, vI0 x, vI0 y, vI0 w, trivial⟩) (fun hH a q => bR8_fr hH a (by decide +kernel) q) (fun hH a q => bR8_fr hH a (by decide +kernel) q) (fun h hH hR => by
  obtain ⟨⟨hd, so, sz, co, cl, f, gg, q4, bs⟩, c, ck, m, gk, ik, tf, kc, km, ej, rl, rk⟩ := hR
  have F := kc.1
  have h0 := kc.2.2.1
  have M := km.1
  obtain ⟨R, hR43⟩ := RA_of hH (p := 43) (Or.inl rfl)
  obtain ⟨s, sI, sJ, g, gM⟩ := RN_sg rl.1
  have n5 := sI.2.2.2.2.2.2.2
  have hn := gdF_n g
  by_cases hx : (0 ≤ x.toInt ∧ x.toInt < (s.2.2 : Int)) ∧ (0 ≤ y.toInt ∧ y.toInt < (s.2.2 : Int))
  · by_cases hw : (0 ≤ w.toInt ∧ w.toInt ≤ 3)
    · by_cases he : x.toInt = y.toInt
      · refine ⟨_, sDo_mono (s_choose11_6 (d := 10) (by omega) h0 hR43 F sI hx hw he) (fun r h' q => ⟨q.1, by rw [q.2]; exact vE_43⟩), fun h1 hH1 E => ?_⟩
        obtain ⟨Rm, hRm⟩ := RA_of hH1 (p := 61) (Or.inr rfl)
        exact sDo_mono (s_choose12_6 (d := 10) (by omega) (MC_vE M E) hRm sJ hx hw he) (fun r h' q => q.1)
      · obtain ⟨i, hi⟩ : ∃ i : Nat, x.toInt = i := ⟨x.toInt.toNat, by omega⟩
        have ex : x = Int32.ofNat i := Int32.toInt_inj.mp (by rw [hi, ofN_toInt (by omega)])
        obtain ⟨j, hj⟩ : ∃ j : Nat, y.toInt = j := ⟨y.toInt.toNat, by omega⟩
        have ey : y = Int32.ofNat j := Int32.toInt_inj.mp (by rw [hj, ofN_toInt (by omega)])
        subst ex
        subst ey
        have RS := (rl.2 s sI).1
        obtain ⟨b, l, hfin⟩ := fin_some (ap := (apW m s.1 (s.1 * s.2.1) i)) (W := s.1) (H := s.2.1) sI.2.2.2.1
        have hb := chI_F (ap := (apW m s.1 (s.1 * s.2.1) i)) (L := (lsT s.1 s.2.1 true false)) (o := none) (fun _ _ z => by cases z) (fun C hC => ⟨apN_le (wV_le hn.1 RS (by omega)) (wV_le hn.1 RS (by omega)), ls_k2 gM.2.2.2.1 gM.2.2.2.2.2 C hC⟩) b l hfin
        obtain ⟨B, S1, S2, fc, ff, s38, s39, s40⟩ := SO_of2 hH
        refine ⟨_, sDo_mono (s_choose11 (d := 10) (by omega) h0 F g rl sI (by omega) (by omega) (by omega) hw s38 s39 s40 hfin hb.2) (fun r h' q => ⟨q.1, ⟨q.2.1, fun q' hq' => q.2.2 q' (by omega)⟩⟩), fun h1 hH1 E => ?_⟩
        obtain ⟨fc1, f76, -, -⟩ := bA60 hH1 (p := 76) (by decide) rfl
        exact s_choose12 (d := 10) (by omega) (MC_vE M E) g gM rl sI sJ f76 (by omega) (by omega) (by omega) hw hfin hb.2
    · refine ⟨_, sDo_mono (s_choose11_5 (d := 10) (by omega) h0 hR43 F sI hx hw) (fun r h' q => ⟨q.1, by rw [q.2]; exact vE_43⟩), fun h1 hH1 E => ?_⟩
      obtain ⟨Rm, hRm⟩ := RA_of hH1 (p := 61) (Or.inr rfl)
      exact sDo_mono (s_choose12_5 (d := 10) (by omega) (MC_vE M E) hRm sJ hx hw) (fun r h' q => q.1)
  · refine ⟨_, sDo_mono (s_choose11_1 (d := 10) (by omega) h0 hR43 F sI hx) (fun r h' q => ⟨q.1, by rw [q.2]; exact vE_43⟩), fun h1 hH1 E => ?_⟩
    obtain ⟨Rm, hRm⟩ := RA_of hH1 (p := 61) (Or.inr rfl)
    exact sDo_mono (s_choose12_1 (d := 10) (by omega) (MC_vE M E) hRm sJ hx) (fun r h' q => q.1))
end
section
/-! ===== owners alike ===== -/
def cdS (k : Nat) : Int32 := if k = 5 then 9 else if k = 6 then -1 else Int32.ofNat k
theorem cdS_inj {a b : Nat} (ha : a < 7) (hb : b < 7) (h : cdS a = cdS b) : a = b := by
  have key : ∀ a, a < 7 → ∀ b, b < 7 → cdS a = cdS b → a = b := by decide +kernel
  exact key a ha b hb h
/-- seven sets part the squares as the owners say -/
def PT (S : Nat → Int64) (ow : Nat → Int32) (n : Nat) : Prop := (∀ k, k < 7 → S k = stO (fun q => decide (ow q = cdS k)) n) ∧ ∀ q, q < n → ∃ k, k < 7 ∧ ow q = cdS k
def RO (c : CF) (m : MF) : Prop := RB c m ∧ ∀ s : Sg, sgI c s → PT c.2.2.2.2.2.2 m.2.2.1 (s.1 * s.2.1)
theorem RO_mk {c : CF} {m : MF} {s : Sg} (a : RB c m) (q : sgI c s) (b : PT c.2.2.2.2.2.2 m.2.2.1 (s.1 * s.2.1)) : RO c m := ⟨a, fun s' q' => by rw [← sgI_inj q q']; exact b⟩
theorem PT_ext {S S' : Nat → Int64} {ow ow' : Nat → Int32} {n : Nat} (hn : n ≤ 64) (hS : ∀ k, k < 7 → S' k = S k) (ho : ∀ q, q < n → ow' q = ow q) (p : PT S ow n) : PT S' ow' n := ⟨fun k hk => (hS k hk).trans ((p.1 k hk).trans (stO_ext hn (fun q hq => by rw [ho q hq]))), fun q hq => by rw [ho q hq]; exact p.2 q hq⟩
theorem PT_bt {S : Nat → Int64} {ow : Nat → Int32} {n k q : Nat} (hn : n ≤ 64) (p : PT S ow n) (hk : k < 7) (hq : q < n) : bt (S k) q = decide (ow q = cdS k) := by
  rw [p.1 k hk, bt_stO _ _ hn, decide_eq_true hq, Bool.true_and]
theorem PT_out {S : Nat → Int64} {ow : Nat → Int32} {n k q : Nat} (hn : n ≤ 64) (p : PT S ow n) (hk : k < 7) (hq : ¬ q < n) : bt (S k) q = false := by
  rw [p.1 k hk, bt_stO _ _ hn, decide_eq_false hq, Bool.false_and]
theorem PT_size {S : Nat → Int64} {ow : Nat → Int32} {z : Int64} {n : Nat} (hn : n ≤ 64) (hz : z = stO (fun _ => true) n) : PT (vp_updL (zrF S 7) 6 z) (fillF (Int32.ofInt (-1)) ow 64) n := by
  have e0 : ∀ q, q < n → fillF (Int32.ofInt (-1)) ow 64 q = cdS 6 := fun q hq => if_pos (by omega)
  refine ⟨fun k hk => ?_, fun q hq => ⟨6, by decide, e0 q hq⟩⟩
  by_cases w : k = 6
  · subst w
    rw [show vp_updL (zrF S 7) 6 z 6 = z from if_pos rfl, hz]
    exact stO_ext hn (fun q hq => by rw [e0 q hq, decide_eq_true rfl])
  · rw [show vp_updL (zrF S 7) 6 z k = zrF S 7 k from if_neg w, show zrF S 7 k = Int64.ofNat 0 from if_pos hk]
    exact (stO_no hn (fun q hq => by rw [e0 q hq]; exact decide_eq_false (fun z => w (cdS_inj (by decide) hk z).symm))).symm
/-- a set goes over to one slot -/
theorem PT_give {S : Nat → Int64} {ow ow' : Nat → Int32} {n v : Nat} {set : Int64} {P : Nat → Bool} (hn : n ≤ 64) (hv : v < 7) (hs : set = stO P n) (e : ∀ q, q < n → ow' q = if P q = true then cdS v else ow q) (p : PT S ow n) : PT (giveS S 7 set v) ow' n := by
  refine ⟨fun u hu => ?_, fun q hq => ?_⟩
  · have gu : ∀ u, u < 7 → gvF S set 7 u = S u &&& (set ^^^ lM1) := fun u hu => if_pos hu
    refine bt_ext (fun i hi => ?_)
    rw [bt_stO _ _ hn]
    by_cases z : i < n
    · rw [decide_eq_true z, Bool.true_and, e i z]
      have k1 := PT_bt hn p hu z
      have k2 : bt set i = P i := by rw [hs, bt_stO _ _ hn, decide_eq_true z, Bool.true_and]
      by_cases w : u = v
      · subst w
        rw [show giveS S 7 set u u = gvF S set 7 u ||| set from if_pos rfl, gu u hu, bt_or, bt_and, bt_not, decide_eq_true hi, Bool.true_and, k1, k2]
        by_cases y : P i = true
        · rw [y, if_pos rfl, decide_eq_true rfl, Bool.or_true]
        · rw [nTF y, if_neg (by decide), Bool.or_false, Bool.not_false, Bool.and_true]
      · rw [show giveS S 7 set v u = gvF S set 7 u from if_neg w, gu u hu, bt_and, bt_not, decide_eq_true hi, Bool.true_and, k1, k2]
        by_cases y : P i = true
        · rw [y, if_pos rfl, Bool.not_true, Bool.and_false]
          exact (decide_eq_false (fun z => w (cdS_inj hv hu z).symm)).symm
        · rw [nTF y, if_neg (by decide), Bool.not_false, Bool.and_true]
    · rw [decide_eq_false z, Bool.false_and]
      have k1 := PT_out hn p hu z
      have k2 : bt set i = false := by rw [hs, bt_stO _ _ hn, decide_eq_false z, Bool.false_and]
      by_cases w : u = v
      · subst w
        rw [show giveS S 7 set u u = gvF S set 7 u ||| set from if_pos rfl, gu u hu, bt_or, bt_and, k1, k2]
        rfl
      · rw [show giveS S 7 set v u = gvF S set 7 u from if_neg w, gu u hu, bt_and, k1]
        rfl
  · rw [e q hq]
    by_cases y : P q = true
    · rw [if_pos y]; exact ⟨v, hv, rfl⟩
    · rw [if_neg y]; exact p.2 q hq
theorem svF_ow (m : MF) (g : Nat → Int32) {q : Nat} (hq : q < 64) : svF m g (64 + q) = m.2.2.1 q := by
  unfold svF
  rw [gS7_ne (by omega)]
  unfold gS ks
  rw [if_neg (by omega), if_neg (by omega), if_neg (by omega), if_pos (by omega)]
  exact congrArg _ (by omega)
theorem RO_ok : relOk RO := by
  refine ⟨fun c m m' r q => ⟨RB_ok.1 c m m' r.1 q, fun s hs => by rw [q.2]; exact r.2 s hs⟩, fun c m s a r q p k => ?_, fun a b m r => ?_, fun c m m' g r => ?_, fun c m r => r.1.1, fun c m s k v r q hk hv => ?_⟩
  · have z := sg_do q p k
    obtain ⟨s', sI, -, gF, -⟩ := RN_sg r.1.1
    have e : s' = s := sgI_inj sI q
    subst e
    refine RO_mk (RB_ok.2.1 c m s' a r.1 q p k) z.1 ?_
    have n0 := gdF_n gF
    have P := r.2 s' q
    obtain ⟨i, x, y, w⟩ := a
    match i, k with
    | 0, k =>
      have k : 2 ≤ x ∧ x ≤ 8 ∧ 2 ≤ y ∧ y ≤ 8 := k
      have g2 := (gdF_size (c := c) k.1 k.2.1 k.2.2.1 k.2.2.2)
      exact PT_size (gdF_n g2).1 g2.2.2.2.2.2.2.1
    | 1, _ => exact P
    | 2, _ => exact P
    | 3, _ => exact P
    | i + 4, _ => exact P
  · obtain ⟨s, sI, -, gF, -⟩ := RN_sg r.1.1
    have sI2 : sgI (cfBecome a b) s := ⟨(bc_I a.1 b.1 0 (by decide)).trans sI.1, (bc_I a.1 b.1 1 (by decide)).trans sI.2.1, (bc_I a.1 b.1 11 (by decide)).trans sI.2.2.1, sI.2.2.2⟩
    exact RO_mk (RB_ok.2.2.1 a b m r.1) sI2 (PT_ext (gdF_n gF).1 (fun k hk => if_pos hk) (fun _ _ => rfl) (r.2 s sI))
  · obtain ⟨s, sI, -, gF, -⟩ := RN_sg r.1.1
    refine RO_mk (RB_ok.2.2.2.1 c m m' g r.1) sI (PT_ext (gdF_n gF).1 (fun _ _ => rfl) (fun q hq => ?_) (r.2 s sI))
    have n0 := (gdF_n gF).1
    show kb m'.2.2.1 (svF m g) 64 64 q = _
    unfold kb
    rw [if_pos (by omega), svF_ow m g (by omega)]
  · have sI2 : sgI (upd c.1 (7 + k) v, c.2) s := ⟨(u_ne (show (0 : Nat) ≠ 7 + k by omega)).trans q.1, (u_ne (show (1 : Nat) ≠ 7 + k by omega)).trans q.2.1, (u_ne (show (11 : Nat) ≠ 7 + k by omega)).trans q.2.2.1, q.2.2.2⟩
    exact RO_mk (RB_ok.2.2.2.2.2 c m s k v r.1 q hk hv) sI2 (r.2 s q)
theorem RO_ow {c : CF} {m : MF} {o1 : Nat → Int64} {o2 : Nat → Int32} {s : Sg} (r : RO c m) (q : sgI c s) (p : PT o1 o2 (s.1 * s.2.1)) : RO (c.1, c.2.1, c.2.2.1, c.2.2.2.1, c.2.2.2.2.1, c.2.2.2.2.2.1, o1) (m.1, m.2.1, o2, m.2.2.2) := RO_mk (RB_no c m o1 o2 r.1) (show sgI (c.1, c.2.1, c.2.2.1, c.2.2.2.1, c.2.2.2.2.1, c.2.2.2.2.2.1, o1) s from q) p
end
