/-! ===== the best cut into two ===== -/
def ST (ow : Nat → Int32) (n : Nat) : Nat → Int64 := fun k => stO (fun q => decide (ow q = cdS k)) n
theorem PT_ST {ow : Nat → Int32} {n : Nat} (h : ∀ q, q < n → ∃ k, k < 7 ∧ ow q = cdS k) : PT (ST ow n) ow n := ⟨fun _ _ => rfl, h⟩
theorem fst1_ext {P P' : Nat → Prop} : ∀ {f i : Nat}, (∀ j, i ≤ j → j < i + f → (P j ↔ P' j)) → fst1 P f i = fst1 P' f i := by
  intro f
  induction f with
  | zero => intro i _; rfl
  | succ f ih =>
    intro i h
    have k := ih (i := i + 1) (fun j h1 h2 => h j (by omega) (by omega))
    by_cases z : P i
    · rw [fst1_y z, fst1_y ((h i (Nat.le_refl _) (by omega)).mp z)]
    · rw [fst1_n z, fst1_n (fun y => z ((h i (Nat.le_refl _) (by omega)).mpr y)), k]
theorem fltP_ext {m : MF} {s : Sg} {S S' : Nat → Int64} (h : ∀ k, k < 7 → S k = S' k) (f i : Nat) (hi : i < 5) : fltP m s S f i ↔ fltP m s S' f i := by
  unfold fltP
  rw [h i (by omega), h 5 (by decide)]
theorem vdG_ext {F F' : Nat → Nat → Prop} {N : Nat} (h : ∀ f i, i < N → (F f i ↔ F' f i)) : ∀ k f, vdG F N k f = vdG F' N k f := by
  intro k
  induction k with
  | zero => intro f; rfl
  | succ k ih =>
    intro f
    show vdT (fst1 (F f) N 0) f (vdG F N k (f + 1)) = vdT (fst1 (F' f) N 0) f (vdG F' N k (f + 1))
    rw [ih, fst1_ext (fun j _ h2 => h f j (by omega))]
theorem vdA_ext {m : MF} {s : Sg} {S S' : Nat → Int64} (hN : s.2.2 ≤ 5) (h : ∀ k, k < 7 → S k = S' k) : vdA m s S = vdA m s S' := by
  unfold vdA
  rw [h 6 (by decide), vdG_ext (fun f i hi => fltP_ext h f i (by omega))]
theorem vdA_PT {m : MF} {s : Sg} {S : Nat → Int64} {ow : Nat → Int32} {n : Nat} (hN : s.2.2 ≤ 5) (P : PT S ow n) : vdA m s S = vdA m s (ST ow n) := vdA_ext hN P.1
def owT (W C w : Nat) : Nat → Int32 := fun q => if isF W C q = true then Int32.ofNat w else Int32.ofNat (1 - w)
theorem owT_in {W C w q : Nat} (hw : w ≤ 1) : ∃ k, k < 7 ∧ owT W C w q = cdS k := by
  unfold owT
  by_cases z : isF W C q = true
  · rw [if_pos z]; exact ⟨w, by omega, (cdS_lt (by omega)).symm⟩
  · rw [if_neg z]; exact ⟨1 - w, by omega, (cdS_lt (by omega)).symm⟩
def setT (T : Nat → Int64) (W n C w : Nat) : Nat → Int64 := vp_updL (vp_updL T w (fsS W n C)) (1 - w) (stO (fun _ => true) n &&& (fsS W n C ^^^ Int64.ofNat 18446744073709551615))
theorem setT_0 {T : Nat → Int64} {W n C w : Nat} (h : ∀ k, 2 ≤ k → k < 7 → T k = Int64.ofNat 0) (hw : w ≤ 1) : ∀ k, 2 ≤ k → k < 7 → setT T W n C w k = Int64.ofNat 0 := fun k h2 h7 => by
  unfold setT
  rw [show vp_updL (vp_updL T w (fsS W n C)) (1 - w) (stO (fun _ => true) n &&& (fsS W n C ^^^ Int64.ofNat 18446744073709551615)) k = vp_updL T w (fsS W n C) k from if_neg (by omega), show vp_updL T w (fsS W n C) k = T k from if_neg (by omega)]
  exact h k h2 h7
theorem PT_two {T : Nat → Int64} {W n C w : Nat} (hn : n ≤ 64) (h : ∀ k, 2 ≤ k → k < 7 → T k = Int64.ofNat 0) (hw : w ≤ 1) : PT (setT T W n C w) (owT W C w) n := by
  refine ⟨fun k hk => ?_, fun q _ => owT_in hw⟩
  have cw := cdS_lt (i := w) (by omega)
  have cv := cdS_lt (i := 1 - w) (by omega)
  by_cases k1 : k = 1 - w
  · subst k1
    unfold setT
    rw [show vp_updL (vp_updL T w (fsS W n C)) (1 - w) (stO (fun _ => true) n &&& (fsS W n C ^^^ Int64.ofNat 18446744073709551615)) (1 - w) = stO (fun _ => true) n &&& (fsS W n C ^^^ lM1) from if_pos rfl]
    unfold fsS
    refine st_andn hn (fun q _ => ?_)
    unfold owT
    by_cases z : isF W C q = true
    · rw [if_pos z, z, ← cw, decide_eq_false (fun e => by have := cdS_inj (by omega) (by omega) e; omega)]; rfl
    · rw [if_neg z, nTF z, cv, decide_eq_true rfl]; rfl
  · by_cases k2 : k = w
    · subst k2
      unfold setT
      rw [show vp_updL (vp_updL T k (fsS W n C)) (1 - k) (stO (fun _ => true) n &&& (fsS W n C ^^^ Int64.ofNat 18446744073709551615)) k = vp_updL T k (fsS W n C) k from if_neg k1, show vp_updL T k (fsS W n C) k = fsS W n C from if_pos rfl]
      unfold fsS
      refine stO_ext hn (fun q _ => ?_)
      unfold owT
      by_cases z : isF W C q = true
      · rw [if_pos z, z, cw, decide_eq_true rfl]
      · rw [if_neg z, nTF z, ← cv, decide_eq_false (fun e => by have := cdS_inj (by omega) (by omega) e; omega)]
    · rw [setT_0 h hw k (by omega) hk]
      refine (stO_no hn (fun q _ => ?_)).symm
      unfold owT
      by_cases z : isF W C q = true
      · rw [if_pos z, ← cw]; exact decide_eq_false (fun e => k2 (cdS_inj (by omega) hk e).symm)
      · rw [if_neg z, ← cv]; exact decide_eq_false (fun e => k1 (cdS_inj (by omega) hk e).symm)
/-- a parting tried -/
noncomputable def trS (m : MF) (s : Sg) (C C2 : Nat) (ow : Nat → Int32) (t : T3) : T3 := tS (hdN s.1 (s.1 * s.2.1) ow (s.1 * s.2.1)) (vdA m s (ST ow (s.1 * s.2.1)) = none) C C2 t
noncomputable def twL (m : MF) (s : Sg) : List Nat → T3 → T3
  | [], t => t
  | C :: L, t => twL m s L (trS m s C 1 (owT s.1 C 1) (trS m s C 0 (owT s.1 C 0) t))
theorem trS_le {m : MF} {s : Sg} {C C2 : Nat} {ow : Nat → Int32} {t : T3} (h : t.2 ≤ 1000) : (trS m s C C2 ow t).2 ≤ 1000 := tS_le h
theorem twL_le {m : MF} {s : Sg} : ∀ {L : List Nat} {t : T3}, t.2 ≤ 1000 → (twL m s L t).2 ≤ 1000 := by
  intro L
  induction L with
  | nil => intro t h; exact h
  | cons C L ih => intro t h; exact ih (trS_le (trS_le h))
def tcE (h h' : sHp) : Prop := h'.length = h.length ∧ ∀ q, (q < 38 ∨ 41 < q) → h'[q]? = h[q]?
theorem tcE_rfl {h : sHp} : tcE h h := ⟨rfl, fun _ _ => rfl⟩
theorem tcE_38 {h h1 h2 : sHp} (a : tcE h h1) (b : e38 h1 h2) : tcE h h2 := ⟨b.1.trans a.1, fun q hq => (b.2 q (by omega)).trans (a.2 q hq)⟩
theorem tcE_set {h h1 : sHp} {q : Nat} {x : va_E} (a : tcE h h1) (hq : 38 ≤ q ∧ q ≤ 41) : tcE h (h1.set q x) := ⟨by rw [List.length_set]; exact a.1, fun p hp => by rw [s_set_ne (by omega)]; exact a.2 p hp⟩
theorem tcE_sc {h h1 h2 : sHp} (a : tcE h h1) (b : scE h1 h2) : tcE h h2 := ⟨b.1.trans a.1, fun q hq => (b.2 q (by omega)).trans (a.2 q hq)⟩
theorem two_go {P R L : List Nat} {C : Nat} (hL : L = P ++ C :: R) : L[P.length]? = some C ∧ L = (P ++ [C]) ++ R ∧ (P ++ [C]).length = P.length + 1 ∧ L.length = P.length + (R.length + 1) := ⟨by rw [hL, List.getElem?_append_right (Nat.le_refl _), Nat.sub_self]; rfl, by rw [hL, List.append_assoc]; rfl, by rw [List.length_append]; rfl, by rw [hL, List.length_append, List.length_cons]⟩
theorem bsC_0 {B : Nat → Int32} {t : T3} (b : bsC B t) : B 0 = Int32.ofInt (-1) ↔ t.1 = none ∨ ∃ a c, t.1 = some (a, c) ∧ Int32.ofNat a = Int32.ofInt (-1) := by
  obtain ⟨t1, t2⟩ := t
  rcases t1 with _ | ⟨a, c⟩
  · exact ⟨fun _ => Or.inl rfl, fun _ => b.1⟩
  · have b1 : B 0 = Int32.ofNat a := b.1.1
    refine ⟨fun z => Or.inr ⟨a, c, rfl, b1.symm.trans z⟩, fun z => ?_⟩
    rcases z with z | ⟨a', c', e, z⟩
    · cases z
    · cases e; exact b1.trans z
/-- the codes found are codes -/
def cdI (t : T3) : Prop := ∀ a c, t.1 = some (a, c) → a < 100000
theorem cdI_tr {m : MF} {s : Sg} {C C2 : Nat} {ow : Nat → Int32} {t : T3} (h : cdI t) (hC : C < 100000) : cdI (trS m s C C2 ow t) := by
  unfold trS
  by_cases z : hdN s.1 (s.1 * s.2.1) ow (s.1 * s.2.1) < t.2 ∧ vdA m s (ST ow (s.1 * s.2.1)) = none
  · rw [tS_y z]; intro a c e; cases e; exact hC
  · rw [tS_n z]; exact h
theorem bsC_n {B : Nat → Int32} {t : T3} (b : bsC B t) (hc : cdI t) : B 0 = Int32.ofInt (-1) ↔ t.1 = none := by
  rw [bsC_0 b]
  refine ⟨fun z => ?_, fun z => Or.inl z⟩
  rcases z with z | ⟨a, c, e, z⟩
  · exact z
  · have := hc a c e
    have z2 := congrArg Int32.toInt z
    rw [ofC_toInt this] at z2
    have e1 : (Int32.ofInt (-1)).toInt = -1 := rfl
    omega
theorem s_two11_go {d : Nat} {h0 : sHp} {c : CF} {m : MF} {s : Sg} {L : List Nat} {fc : Nat → Int32} {ff : Nat → Int64} {S1 S2 : Int64} (hd : 8 ≤ d) (g : gdF c s.1 s.2.1) (r : RB c m) (sI : sgI c s) (hk : ∀ C ∈ L, C < 7000 ∧ ¬ C / 1000 = 3) (hl : L.length ≤ 644) (p1 : ∀ j C, L[j]? = some C → fc j = Int32.ofNat C) (p2 : ∀ j C, L[j]? = some C → ff j = fsS s.1 (s.1 * s.2.1) C) : ∀ (R P : List Nat) (t : T3) (B : Nat → Int32) (T : Nat → Int64) (h : sHp) (o3 : Option Value), L = P ++ R → cdI t → FC h 5 c → h[38]? = some (sO B S1 S2) → B 6 = Int32.ofNat L.length → bsC B t → t.2 ≤ 1000 → h[39]? = some (.inl (0, 644, .inl fc)) → h[40]? = some (.inl (1, 644, .inr (.inl ff))) → h[41]? = some (.inl (1, 7, .inr (.inl T))) → (∀ k, 2 ≤ k → k < 7 → T k = Int64.ofNat 0) → tcE h0 h → sGo none 97 d 33 [some (.ref 38), some (.ref 5), some (.int (Int32.ofNat P.length)), o3] [] h (fun rv h' => (rv = some (.int 1) ∧ (twL m s R t).1 ≠ none ∨ rv = some (.int 0) ∧ (twL m s R t).1 = none) ∧ tcE h0 h' ∧ ∃ B', h'[38]? = some (sO B' S1 S2) ∧ bsC B' (twL m s R t)) := by
  have hn := gdF_n g
  have n5 := sI.2.2.2.2.2.2.2
  have g2 : c.2.1 2 = stO (fun _ => true) (s.1 * s.2.1) := g.2.2.2.2.2.2.1
  intro R
  induction R with
  | nil =>
    intro P t B T h o3 hL hc F hS b6 b ht h39 h40 h41 hT E
    rw [List.append_nil] at hL
    subst hL
    have el := ofN_toInt (n := L.length) (by omega)
    have e6 : (B 6).toInt = ((L.length : Nat) : Int) := by rw [b6]; exact el
    have e0 := bsC_n b hc
    refine g_iload_n (i := 2) rfl rfl ?_
    refine g_aload_n (i := 0) rfl rfl ?_
    refine g_getfield (v := .int (B 6)) rfl hS (by decide) rfl ?_
    refine g_icmp_ge 107 rfl rfl (fun _ => ?_) (fun hc => absurd hc (by rw [i_le, e6, el]; omega))
    refine g_aload_n (i := 0) rfl rfl ?_
    refine g_getfield (v := .int (B 0)) rfl hS (by decide) rfl ?_
    refine g_iconst (n := (-1)) rfl ?_
    refine g_icmp_eq 119 rfl rfl (fun c_1 => ?_) (fun c_1 => ?_)
    · skip
      refine g_iconst (n := 0) rfl ?_
      refine g_ireturn (ty := .boolean) rfl rfl (by decide) ?_
      exact ⟨Or.inr ⟨rfl, e0.mp c_1⟩, E, B, hS, b⟩
    · skip
      refine g_iconst (n := 1) rfl ?_
      refine g_goto 120 rfl rfl ?_
      refine g_ireturn (ty := .boolean) rfl rfl (by decide) ?_
      exact ⟨Or.inl ⟨rfl, fun z => c_1 (e0.mpr z)⟩, E, B, hS, b⟩
  | cons C R ih =>
    intro P t B T h o3 hL hc F hS b6 b ht h39 h40 h41 hT E
    obtain ⟨hat, hL2, hP1, hlen⟩ := two_go hL
    have el := ofN_toInt (n := P.length) (by omega)
    have e6 : (B 6).toInt = ((L.length : Nat) : Int) := by rw [b6]; exact ofN_toInt (by omega)
    have hC := hk C (by rw [hL]; exact List.mem_append_right _ (List.mem_cons_self ..))
    have hff := p2 P.length C hat
    have hfc := p1 P.length C hat
    have ez : (Int32.ofInt 0).toInt = ((0 : Nat) : Int) := rfl
    have eo : (Int32.ofInt 1).toInt = ((1 : Nat) : Int) := rfl
    refine g_iload_n (i := 2) rfl rfl ?_
    refine g_aload_n (i := 0) rfl rfl ?_
    refine g_getfield (v := .int (B 6)) rfl hS (by decide) rfl ?_
    refine g_icmp_ge 107 rfl rfl (fun hc => absurd hc (by rw [i_le, e6, el]; omega)) (fun _ => ?_)
    refine g_iconst (n := 0) rfl ?_
    refine g_istore_n (i := 3) (L1 := [some (.ref 38), some (.ref 5), some (.int (Int32.ofNat P.length)), some (.int (Int32.ofInt 0))]) rfl (Nat.le_of_ble_eq_true rfl) rfl ?_
    show sGo none 97 _ 43 [some (.ref 38), some (.ref 5), some (.int (Int32.ofNat P.length)), some (.int (Int32.ofInt 0))] [] _ _
    refine g_iload_n (i := 3) rfl rfl ?_
    refine g_iconst (n := 2) rfl ?_
    refine g_icmp_ge 101 rfl rfl (fun hc => absurd hc (by decide)) (fun _ => ?_)
    refine g_aload_n (i := 0) rfl rfl ?_
    refine g_getfield (v := .ref 41) rfl hS (by decide) rfl ?_
    refine g_iload_n (i := 3) rfl rfl ?_
    refine g_aload_n (i := 0) rfl rfl ?_
    refine g_getfield (v := .ref 40) rfl hS (by decide) rfl ?_
    refine g_iload_n (i := 2) rfl rfl ?_
    refine g_laload (n := 644) (f := ff) rfl h40 (i_in (by omega) (by omega)) ?_
    rw [i_nat el, hff]
    refine g_lastore (n := 7) (f := T) (h1 := h.set 41 (.inl (1, 7, .inr (.inl (vp_updL T 0 (fsS s.1 (s.1 * s.2.1) C)))))) rfl h41 (i_in (by rw [ez]; decide) (by rw [ez]; decide)) (by rw [i_nat ez]) ?_
    have FA0 := FC_out (q := 41) (x := (.inl (1, 7, .inr (.inl (vp_updL T 0 (fsS s.1 (s.1 * s.2.1) C)))))) F (by omega)
    have SA0 : (h.set 41 (.inl (1, 7, .inr (.inl (vp_updL T 0 (fsS s.1 (s.1 * s.2.1) C))))))[38]? = some (sO B S1 S2) := by rw [s_set_ne (by decide)]; exact hS
    have TA0 : (h.set 41 (.inl (1, 7, .inr (.inl (vp_updL T 0 (fsS s.1 (s.1 * s.2.1) C))))))[41]? = some (.inl (1, 7, .inr (.inl (vp_updL T 0 (fsS s.1 (s.1 * s.2.1) C))))) := s_set_eq h41
    refine g_aload_n (i := 0) rfl rfl ?_
    refine g_getfield (v := .ref 41) rfl SA0 (by decide) rfl ?_
    refine g_iconst (n := 1) rfl ?_
    refine g_iload_n (i := 3) rfl rfl ?_
    refine g_isub rfl ?_
    refine g_aload_n (i := 1) rfl rfl ?_
    refine g_getfield (v := .long (c.2.1 2)) rfl FA0.1 (by decide) rfl ?_
    refine g_aload_n (i := 0) rfl rfl ?_
    refine g_getfield (v := .ref 40) rfl SA0 (by decide) rfl ?_
    refine g_iload_n (i := 2) rfl rfl ?_
    refine g_laload (n := 644) (f := ff) rfl (by rw [s_set_ne (by decide)]; exact h40) (i_in (by omega) (by omega)) ?_
    rw [i_nat el, hff]
    refine g_ldc2_w (j := 18446744073709551615) rfl ?_
    refine g_lxor rfl ?_
    refine g_land rfl ?_
    rw [g2]
    show sGo none 97 _ 82 [some (.ref 38), some (.ref 5), some (.int (Int32.ofNat P.length)), some (.int (Int32.ofInt 0))] (.long (stO (fun _ => true) (s.1 * s.2.1) &&& ((fsS s.1 (s.1 * s.2.1) C) ^^^ Int64.ofNat 18446744073709551615)) :: .int (Int32.ofInt 1) :: .ref 41 :: []) _ _
    refine g_lastore (n := 7) (f := vp_updL T 0 (fsS s.1 (s.1 * s.2.1) C)) (h1 := h.set 41 (.inl (1, 7, .inr (.inl (setT T s.1 (s.1 * s.2.1) C 0))))) rfl TA0 (i_in (by rw [eo]; decide) (by rw [eo]; decide)) (by rw [i_nat eo, List.set_set]; rfl) ?_
    have FB0 := FC_out (q := 41) (x := (.inl (1, 7, .inr (.inl (setT T s.1 (s.1 * s.2.1) C 0))))) F (by omega)
    have SB0 : (h.set 41 (.inl (1, 7, .inr (.inl (setT T s.1 (s.1 * s.2.1) C 0)))))[38]? = some (sO B S1 S2) := by rw [s_set_ne (by decide)]; exact hS
    have TB0 : (h.set 41 (.inl (1, 7, .inr (.inl (setT T s.1 (s.1 * s.2.1) C 0)))))[41]? = some (.inl (1, 7, .inr (.inl (setT T s.1 (s.1 * s.2.1) C 0)))) := s_set_eq h41
    have PB0 := PT_two (T := T) (W := s.1) (n := (s.1 * s.2.1)) (C := C) (w := 0) hn.1 hT (by decide)
    refine g_aload_n (i := 0) rfl rfl ?_
    refine g_aload_n (i := 1) rfl rfl ?_
    refine g_aload_n (i := 0) rfl rfl ?_
    refine g_getfield (v := .ref 39) rfl SB0 (by decide) rfl ?_
    refine g_iload_n (i := 2) rfl rfl ?_
    refine g_iaload (n := 644) (f := fc) rfl (by rw [s_set_ne (by decide)]; exact h39) (i_in (by omega) (by omega)) ?_
    rw [i_nat el, hfc]
    refine g_iload_n (i := 3) rfl rfl ?_
    refine g_virt3 rfl (by decide) rfl SB0 rfl (Nat.le_of_ble_eq_true rfl) (s_try11 (d := d) (C := C) (C2 := 0) (t := t) (m := m) (by omega) FB0 g r sI SB0 TB0 PB0 ht b rfl rfl) (fun r0 h1 hq => ?_)
    obtain ⟨rfl, B1, hS1, b61, b1, E1⟩ := hq
    rw [vdA_PT n5 PB0] at b1
    have b1 : bsC B1 (trS m s C 0 (owT s.1 C 0) t) := b1
    have b61 : B1 6 = Int32.ofNat L.length := b61.trans b6
    have F1 : FC h1 5 c := FC_tr FB0 (fun q x h1 h2 hx => (E1.2 q (by omega)).trans hx)
    have c391 : h1[39]? = some (.inl (0, 644, .inl fc)) := (E1.2 39 (by decide)).trans (by rw [s_set_ne (by decide)]; exact h39)
    have c401 : h1[40]? = some (.inl (1, 644, .inr (.inl ff))) := (E1.2 40 (by decide)).trans (by rw [s_set_ne (by decide)]; exact h40)
    have c411 : h1[41]? = some (.inl (1, 7, .inr (.inl (setT T s.1 (s.1 * s.2.1) C 0)))) := (E1.2 41 (by decide)).trans TB0
    have hT1 := setT_0 (W := s.1) (n := (s.1 * s.2.1)) (C := C) (w := 0) hT (by decide)
    have E1 := tcE_38 (tcE_set (x := .inl (1, 7, .inr (.inl (setT T s.1 (s.1 * s.2.1) C 0)))) E (by decide)) E1
    have ht1 : ((trS m s C 0 (owT s.1 C 0) t)).2 ≤ 1000 := trS_le ht
    have hc1 : cdI (trS m s C 0 (owT s.1 C 0) t) := cdI_tr hc (by omega)
    refine g_iinc (i := 3) (L1 := [some (.ref 38), some (.ref 5), some (.int (Int32.ofNat P.length)), some (.int ((Int32.ofInt 0) + Int32.ofInt 1))]) rfl rfl rfl ?_
    refine g_goto 43 rfl rfl ?_
    show sGo none 97 _ 43 [some (.ref 38), some (.ref 5), some (.int (Int32.ofNat P.length)), some (.int (Int32.ofInt 1))] [] _ _
    refine g_iload_n (i := 3) rfl rfl ?_
    refine g_iconst (n := 2) rfl ?_
    refine g_icmp_ge 101 rfl rfl (fun hc => absurd hc (by decide)) (fun _ => ?_)
    refine g_aload_n (i := 0) rfl rfl ?_
    refine g_getfield (v := .ref 41) rfl hS1 (by decide) rfl ?_
    refine g_iload_n (i := 3) rfl rfl ?_
    refine g_aload_n (i := 0) rfl rfl ?_
    refine g_getfield (v := .ref 40) rfl hS1 (by decide) rfl ?_
    refine g_iload_n (i := 2) rfl rfl ?_
    refine g_laload (n := 644) (f := ff) rfl c401 (i_in (by omega) (by omega)) ?_
    rw [i_nat el, hff]
    refine g_lastore (n := 7) (f := (setT T s.1 (s.1 * s.2.1) C 0)) (h1 := h1.set 41 (.inl (1, 7, .inr (.inl (vp_updL (setT T s.1 (s.1 * s.2.1) C 0) 1 (fsS s.1 (s.1 * s.2.1) C)))))) rfl c411 (i_in (by rw [eo]; decide) (by rw [eo]; decide)) (by rw [i_nat eo]) ?_
    have FA1 := FC_out (q := 41) (x := (.inl (1, 7, .inr (.inl (vp_updL (setT T s.1 (s.1 * s.2.1) C 0) 1 (fsS s.1 (s.1 * s.2.1) C)))))) F1 (by omega)
    have SA1 : (h1.set 41 (.inl (1, 7, .inr (.inl (vp_updL (setT T s.1 (s.1 * s.2.1) C 0) 1 (fsS s.1 (s.1 * s.2.1) C))))))[38]? = some (sO B1 S1 S2) := by rw [s_set_ne (by decide)]; exact hS1
    have TA1 : (h1.set 41 (.inl (1, 7, .inr (.inl (vp_updL (setT T s.1 (s.1 * s.2.1) C 0) 1 (fsS s.1 (s.1 * s.2.1) C))))))[41]? = some (.inl (1, 7, .inr (.inl (vp_updL (setT T s.1 (s.1 * s.2.1) C 0) 1 (fsS s.1 (s.1 * s.2.1) C))))) := s_set_eq c411
    refine g_aload_n (i := 0) rfl rfl ?_
    refine g_getfield (v := .ref 41) rfl SA1 (by decide) rfl ?_
    refine g_iconst (n := 1) rfl ?_
    refine g_iload_n (i := 3) rfl rfl ?_
    refine g_isub rfl ?_
    refine g_aload_n (i := 1) rfl rfl ?_
    refine g_getfield (v := .long (c.2.1 2)) rfl FA1.1 (by decide) rfl ?_
    refine g_aload_n (i := 0) rfl rfl ?_
    refine g_getfield (v := .ref 40) rfl SA1 (by decide) rfl ?_
    refine g_iload_n (i := 2) rfl rfl ?_
    refine g_laload (n := 644) (f := ff) rfl (by rw [s_set_ne (by decide)]; exact c401) (i_in (by omega) (by omega)) ?_
    rw [i_nat el, hff]
    refine g_ldc2_w (j := 18446744073709551615) rfl ?_
    refine g_lxor rfl ?_
    refine g_land rfl ?_
    rw [g2]
    show sGo none 97 _ 82 [some (.ref 38), some (.ref 5), some (.int (Int32.ofNat P.length)), some (.int (Int32.ofInt 1))] (.long (stO (fun _ => true) (s.1 * s.2.1) &&& ((fsS s.1 (s.1 * s.2.1) C) ^^^ Int64.ofNat 18446744073709551615)) :: .int (Int32.ofInt 0) :: .ref 41 :: []) _ _
    refine g_lastore (n := 7) (f := vp_updL (setT T s.1 (s.1 * s.2.1) C 0) 1 (fsS s.1 (s.1 * s.2.1) C)) (h1 := h1.set 41 (.inl (1, 7, .inr (.inl (setT (setT T s.1 (s.1 * s.2.1) C 0) s.1 (s.1 * s.2.1) C 1))))) rfl TA1 (i_in (by rw [ez]; decide) (by rw [ez]; decide)) (by rw [i_nat ez, List.set_set]; rfl) ?_
    have FB1 := FC_out (q := 41) (x := (.inl (1, 7, .inr (.inl (setT (setT T s.1 (s.1 * s.2.1) C 0) s.1 (s.1 * s.2.1) C 1))))) F1 (by omega)
    have SB1 : (h1.set 41 (.inl (1, 7, .inr (.inl (setT (setT T s.1 (s.1 * s.2.1) C 0) s.1 (s.1 * s.2.1) C 1)))))[38]? = some (sO B1 S1 S2) := by rw [s_set_ne (by decide)]; exact hS1
    have TB1 : (h1.set 41 (.inl (1, 7, .inr (.inl (setT (setT T s.1 (s.1 * s.2.1) C 0) s.1 (s.1 * s.2.1) C 1)))))[41]? = some (.inl (1, 7, .inr (.inl (setT (setT T s.1 (s.1 * s.2.1) C 0) s.1 (s.1 * s.2.1) C 1)))) := s_set_eq c411
    have PB1 := PT_two (T := (setT T s.1 (s.1 * s.2.1) C 0)) (W := s.1) (n := (s.1 * s.2.1)) (C := C) (w := 1) hn.1 hT1 (by decide)
    refine g_aload_n (i := 0) rfl rfl ?_
    refine g_aload_n (i := 1) rfl rfl ?_
    refine g_aload_n (i := 0) rfl rfl ?_
    refine g_getfield (v := .ref 39) rfl SB1 (by decide) rfl ?_
    refine g_iload_n (i := 2) rfl rfl ?_
    refine g_iaload (n := 644) (f := fc) rfl (by rw [s_set_ne (by decide)]; exact c391) (i_in (by omega) (by omega)) ?_
    rw [i_nat el, hfc]
    refine g_iload_n (i := 3) rfl rfl ?_
    refine g_virt3 rfl (by decide) rfl SB1 rfl (Nat.le_of_ble_eq_true rfl) (s_try11 (d := d) (C := C) (C2 := 1) (t := (trS m s C 0 (owT s.1 C 0) t)) (m := m) (by omega) FB1 g r sI SB1 TB1 PB1 ht1 b1 rfl rfl) (fun r1 h2 hq => ?_)
    obtain ⟨rfl, B2, hS2, b62, b2, E2⟩ := hq
    rw [vdA_PT n5 PB1] at b2
    have b2 : bsC B2 (trS m s C 1 (owT s.1 C 1) (trS m s C 0 (owT s.1 C 0) t)) := b2
    have b62 : B2 6 = Int32.ofNat L.length := b62.trans b61
    have F2 : FC h2 5 c := FC_tr FB1 (fun q x h1 h2 hx => (E2.2 q (by omega)).trans hx)
    have c392 : h2[39]? = some (.inl (0, 644, .inl fc)) := (E2.2 39 (by decide)).trans (by rw [s_set_ne (by decide)]; exact c391)
    have c402 : h2[40]? = some (.inl (1, 644, .inr (.inl ff))) := (E2.2 40 (by decide)).trans (by rw [s_set_ne (by decide)]; exact c401)
    have c412 : h2[41]? = some (.inl (1, 7, .inr (.inl (setT (setT T s.1 (s.1 * s.2.1) C 0) s.1 (s.1 * s.2.1) C 1)))) := (E2.2 41 (by decide)).trans TB1
    have hT2 := setT_0 (W := s.1) (n := (s.1 * s.2.1)) (C := C) (w := 1) hT1 (by decide)
    have E2 := tcE_38 (tcE_set (x := .inl (1, 7, .inr (.inl (setT (setT T s.1 (s.1 * s.2.1) C 0) s.1 (s.1 * s.2.1) C 1)))) E1 (by decide)) E2
    have ht2 : ((trS m s C 1 (owT s.1 C 1) (trS m s C 0 (owT s.1 C 0) t))).2 ≤ 1000 := trS_le ht1
    have hc2 : cdI (trS m s C 1 (owT s.1 C 1) (trS m s C 0 (owT s.1 C 0) t)) := cdI_tr hc1 (by omega)
    refine g_iinc (i := 3) (L1 := [some (.ref 38), some (.ref 5), some (.int (Int32.ofNat P.length)), some (.int ((Int32.ofInt 1) + Int32.ofInt 1))]) rfl rfl rfl ?_
    refine g_goto 43 rfl rfl ?_
    show sGo none 97 _ 43 [some (.ref 38), some (.ref 5), some (.int (Int32.ofNat P.length)), some (.int (Int32.ofInt 2))] [] _ _
    refine g_iload_n (i := 3) rfl rfl ?_
    refine g_iconst (n := 2) rfl ?_
    refine g_icmp_ge 101 rfl rfl (fun _ => ?_) (fun hc => absurd hc (by exact fun z => z (by decide)))
    refine g_iinc (i := 2) (L1 := [some (.ref 38), some (.ref 5), some (.int ((Int32.ofNat P.length) + Int32.ofInt 1)), some (.int (Int32.ofInt 2))]) rfl rfl rfl ?_
    rw [ofN_add (by omega)]
    refine g_goto 33 rfl rfl ?_
    have key := ih (P ++ [C]) _ B2 _ h2 (some (.int (Int32.ofInt 2))) hL2 hc2 F2 hS2 b62 b2 ht2 c392 c402 c412 hT2 E2
    rw [hP1] at key
    exact key
theorem s_find2 {d : Nat} {h : sHp} {c : CF} {m : MF} {s : Sg} {B : Nat → Int32} {S1 S2 : Int64} {fc : Nat → Int32} {ff T : Nat → Int64} (hd : 9 ≤ d) (F : FC h 5 c) (g : gdF c s.1 s.2.1) (r : RB c m) (sI : sgI c s) (h2 : s.2.2 = 2) (hS : h[38]? = some (sO B S1 S2)) (h39 : h[39]? = some (.inl (0, 644, .inl fc))) (h40 : h[40]? = some (.inl (1, 644, .inr (.inl ff)))) (h41 : h[41]? = some (.inl (1, 7, .inr (.inl T)))) : sDo d 97 [.ref 38, .ref 5] h (fun rv h' => (rv = some (.int 1) ∧ (twL m s (lsT s.1 s.2.1 true false) (none, 1000)).1 ≠ none ∨ rv = some (.int 0) ∧ (twL m s (lsT s.1 s.2.1 true false) (none, 1000)).1 = none) ∧ tcE h h' ∧ ∃ B', h'[38]? = some (sO B' S1 S2) ∧ bsC B' (twL m s (lsT s.1 s.2.1 true false) (none, 1000))) := by
  have w8 := g.2.2.2.1
  have h8 := g.2.2.2.2.2.1
  have e11 : c.1 11 = Int32.ofInt 2 := by rw [sI.2.2.1, h2]; rfl
  refine sDo_of1 (nL := 4) (L := [some (.ref 38), some (.ref 5), none, none]) (by omega) rfl rfl ?_
  refine g_aload_n (i := 0) rfl rfl ?_
  refine g_sipush (n := 1000) rfl ?_
  refine g_virt1 rfl (by decide) rfl hS rfl (Nat.le_of_ble_eq_true rfl) (s_forget (d := d - 1) (x := (Int16.ofInt 1000).toInt32) (by omega) hS) (fun r h1 hq => ?_)
  obtain ⟨rfl, rfl⟩ := hq
  have hA : (h.set 38 (sO (upd (upd (upd B 0 (Int32.ofInt (-1))) 4 (Int32.ofInt 0)) 5 (Int16.ofInt 1000).toInt32) S1 S2))[38]? = some (sO (upd (upd (upd B 0 (Int32.ofInt (-1))) 4 (Int32.ofInt 0)) 5 (Int16.ofInt 1000).toInt32) S1 S2) := s_set_eq hS
  have FA := FC_out (q := 38) (x := sO (upd (upd (upd B 0 (Int32.ofInt (-1))) 4 (Int32.ofInt 0)) 5 (Int16.ofInt 1000).toInt32) S1 S2) F (by omega)
  refine g_aload_n (i := 1) rfl rfl ?_
  refine g_getfield (v := .int (c.1 11)) rfl FA.1 (by decide) rfl ?_
  refine g_iconst (n := 2) rfl ?_
  refine g_icmp_eq 17 rfl rfl (fun _ => ?_) (fun hc => absurd hc (by exact fun z => z e11))
  refine g_aload_n (i := 0) rfl rfl ?_
  refine g_aload_n (i := 1) rfl rfl ?_
  refine g_iconst (n := 1) rfl ?_
  refine g_iconst (n := 0) rfl ?_
  have hls := s_listCuts (d := d - 1) (x2 := Int32.ofInt 1) (x3 := Int32.ofInt 0) (fc := fc) (ff := ff) true false (by omega) FA g hA (by rw [s_set_ne (by decide)]; exact h39) (by rw [s_set_ne (by decide)]; exact h40) (by decide) (by decide)
  refine g_virt3 rfl (by decide) rfl hA rfl (Nat.le_of_ble_eq_true rfl) hls (fun r h2 hq => ?_)
  obtain ⟨rfl, ⟨B2, fc2, ff2, hS2, bb, b6, g39, g40, p1, p2⟩, E2⟩ := hq
  have F2 := FC_tr FA (fun q x h1 h2 hx => (E2.2 q (by omega)).trans hx)
  have g41 : h2[41]? = some (.inl (1, 7, .inr (.inl T))) := (E2.2 41 (by decide)).trans (by rw [s_set_ne (by decide)]; exact h41)
  have bc : bsC B2 (none, 1000) := ⟨(bb 0 (by decide)).trans ((u_ne (by decide)).trans ((u_ne (by decide)).trans u_at)), (bb 5 (by decide)).trans u_at⟩
  have E3 := tcE_sc (tcE_set (x := sO (upd (upd (upd B 0 (Int32.ofInt (-1))) 4 (Int32.ofInt 0)) 5 (Int16.ofInt 1000).toInt32) S1 S2) (tcE_rfl (h := h)) (by decide)) E2
  refine g_aload_n (i := 0) rfl rfl ?_
  refine g_getfield (v := .ref 41) rfl hS2 (by decide) rfl ?_
  refine g_static1 (Qc := fun r h' => r = none ∧ h' = h2.set 41 (.inl (1, 7, .inr (.inl (zrF T 7))))) rfl (by decide) rfl (Nat.le_of_ble_eq_true rfl) (by rw [show d - 1 = (d - 2) + 1 by omega]; exact s_empty (d := d - 2) g41 (by decide)) (fun r h3 hq => ?_)
  obtain ⟨rfl, rfl⟩ := hq
  have F3 := FC_out (q := 41) (x := .inl (1, 7, .inr (.inl (zrF T 7)))) F2 (by omega)
  have hS3 : (h2.set 41 (.inl (1, 7, .inr (.inl (zrF T 7)))))[38]? = some (sO B2 S1 S2) := by rw [s_set_ne (by decide)]; exact hS2
  refine g_iconst (n := 0) rfl ?_
  refine g_istore_n (i := 2) (L1 := [some (.ref 38), some (.ref 5), some (.int (Int32.ofInt 0)), none]) rfl (Nat.le_of_ble_eq_true rfl) rfl ?_
  exact s_two11_go (d := d - 1) (by omega) g r sI (ls_k2 w8 h8) (ls_len w8 h8) p1 p2 (lsT s.1 s.2.1 true false) [] (none, 1000) B2 _ _ _ rfl (fun _ _ z => by cases z) F3 hS3 b6 bc (by decide) (by rw [s_set_ne (by decide)]; exact g39) (by rw [s_set_ne (by decide)]; exact g40) (s_set_eq g41) (fun k _ k7 => if_pos k7) (tcE_set E3 (by decide))
