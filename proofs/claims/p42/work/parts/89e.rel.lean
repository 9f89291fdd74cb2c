/-! ===== texts: the reference's words ===== -/
def wdL : List Int := [115, 105, 122, 101, 32, 0, 115, 111, 105, 108, 32, 0, 114, 111, 97, 100, 32, 0, 119, 101, 108, 108, 32, 0, 111, 97, 107, 32, 0, 115, 109, 97, 108, 108, 32, 0, 104, 101, 105, 114, 32, 0]
def WD (wd : Nat → Int32) : Prop := ∀ i, i < 42 → (wd i).toInt = wdL.getD i 0
def stS (v : Nat) : Nat := [0, 6, 12, 18, 24, 29, 36].getD v 0
theorem st_nz : ∀ v, v < 7 → ∀ i, i < wlS v + 1 → stS v + i < 42 ∧ ¬ wdL.getD (stS v + i) 0 = 0 := by decide
theorem st_z : ∀ v, v < 7 → stS v + wlS v + 1 < 42 ∧ wdL.getD (stS v + wlS v + 1) 0 = 0 := by decide
theorem st_next : ∀ v, v < 6 → stS (v + 1) = stS v + wlS v + 2 := by decide
theorem st_let : ∀ v, v < 7 → ∀ i, i < wlS v → (sTxC v i).toInt = wdL.getD (stS v + i) 0 := by decide
theorem st_bl : ∀ v, v < 7 → wdL.getD (stS v + wlS v) 0 = 32 := by decide
/-- letters and blank of a word that stand from a place on -/
def amS (T wd : Nat → Int32) (p c : Nat) : Nat → Nat → Nat
  | 0, i => i
  | f + 1, i => if T (p + i) = wd (c + i) then amS T wd p c f (i + 1) else i
theorem amS_le (T wd : Nat → Int32) (p c : Nat) : ∀ f i, i ≤ amS T wd p c f i ∧ amS T wd p c f i ≤ i + f := by
  intro f
  induction f with
  | zero => intro i; exact ⟨Nat.le_refl _, Nat.le_refl _⟩
  | succ f ih =>
    intro i
    unfold amS
    by_cases c : T (p + i) = wd (c + i)
    · rw [if_pos c]
      have := ih (i + 1)
      omega
    · rw [if_neg c]
      omega
def fwS (T wd : Nat → Int32) (p : Nat) : Nat → Nat → Option Nat
  | 0, _ => none
  | f + 1, v => if amS T wd p (stS v) (wlS v + 1) 0 = wlS v + 1 then some v else fwS T wd p f (v + 1)
theorem s_word_in {d : Nat} {h : sHp} {J : Nat → Int32} {cl : Nat → Int64} {S n A : Nat} {T : Nat → Int32} {wd : Nat → Int32} {v : Nat} {p far : Int32} {Q : Option Value → sHp → Prop} (hr : h[60]? = some (mO J)) (a8 : h[71]? = some (.inl (1, 800, .inr (.inl cl)))) (R : RT cl S n T) (hJ : rtJ J S n A) (hA : A < 900) (hw : h[73]? = some (.inl (0, 42, .inl wd))) (W : WD wd) (hv : v < 7) (hQ : ∀ m : Nat, m = amS T wd A (stS v) (wlS v + 1) 0 → sGo none 193 d 75 [some (.ref 60), some (.int p), some (.int far), some (.int (Int32.ofNat v)), some (.int (Int32.ofNat (A + m))), some (.int (Int32.ofNat (stS v + m)))] [] h Q) : ∀ (f i : Nat), f + i = wlS v + 1 → amS T wd A (stS v) f i = amS T wd A (stS v) (wlS v + 1) 0 → sGo none 193 d 24 [some (.ref 60), some (.int p), some (.int far), some (.int (Int32.ofNat v)), some (.int (Int32.ofNat (A + i))), some (.int (Int32.ofNat (stS v + i)))] [] h Q := by
  obtain ⟨j21, j22, j23⟩ := hJ
  obtain ⟨R1, R2, R3, R4⟩ := R
  have en := ofN_toInt (n := n) (by omega)
  have wl := wlS_le v
  have e0 : (0 : Int32).toInt = 0 := rfl
  intro f
  induction f with
  | zero =>
    intro i hi hm
    have hz := st_z v hv
    have ei := ofN_toInt (n := stS v + i) (by omega)
    have hwi : wd (stS v + i) = 0 := Int32.toInt_inj.mp (by rw [W _ (by omega), show stS v + i = stS v + wlS v + 1 by omega, hz.2, e0])
    refine g_aload_n (i := 0) rfl rfl ?_
    refine g_getfield (v := .ref 73) rfl hr (by decide) rfl ?_
    refine g_iload (i := 5) rfl rfl ?_
    refine g_ialv (n := 42) (f := wd) (v := wd (stS v + i)) rfl hw (i_in (by omega) (by omega)) (congrArg wd (i_nat ei)) ?_
    refine g_if_eq 75 rfl rfl (fun _ => ?_) (fun hc => absurd hc (by rw [hwi]; decide))
    exact hQ i hm
  | succ f ih =>
    intro i hi hm
    have hz := st_nz v hv i (by omega)
    have ei := ofN_toInt (n := stS v + i) (by omega)
    have eA := ofN_toInt (n := A + i) (by omega)
    have ewd := W (stS v + i) hz.1
    have hwi : ¬ wd (stS v + i) = 0 := fun z => hz.2 (by rw [← ewd, z]; rfl)
    unfold amS at hm
    refine g_aload_n (i := 0) rfl rfl ?_
    refine g_getfield (v := .ref 73) rfl hr (by decide) rfl ?_
    refine g_iload (i := 5) rfl rfl ?_
    refine g_ialv (n := 42) (f := wd) (v := wd (stS v + i)) rfl hw (i_in (by omega) (by omega)) (congrArg wd (i_nat ei)) ?_
    refine g_if_eq 75 rfl rfl (fun hc => absurd hc (by exact hwi)) (fun _ => ?_)
    refine g_iload (i := 4) rfl rfl ?_
    refine g_aload_n (i := 0) rfl rfl ?_
    refine g_getfield (v := .int (J 23)) rfl hr (by decide) rfl ?_
    refine g_icmp_ge 75 rfl rfl (fun c1 => ?_) (fun c1 => ?_)
    · skip
      rw [j23, i_le, en, eA] at c1
      rw [if_neg (show ¬ T (A + i) = wd (stS v + i) by rw [R4 _ (by omega)]; exact fun z => hwi z.symm)] at hm
      exact hQ i hm
    · skip
      rw [j23, i_le, en, eA] at c1
      have eb : (Int32.ofNat (100 * S)).toInt = ((100 * S : Nat) : Int) := Int32.toInt_ofNat_of_lt (by omega)
      have eba : (Int32.ofNat (100 * S) + Int32.ofNat (A + i)).toInt = ((100 * S + (A + i) : Nat) : Int) := by rw [i_add (by rw [eb, eA]; omega) (by rw [eb, eA]; omega), eb, eA]; omega
      refine g_aload_n (i := 0) rfl rfl ?_
      refine g_getfield (v := .ref 71) rfl hr (by decide) rfl ?_
      refine g_aload_n (i := 0) rfl rfl ?_
      refine g_getfield (v := .int (J 21)) rfl hr (by decide) rfl ?_
      refine g_iload (i := 4) rfl rfl ?_
      refine g_iadd rfl ?_
      rw [j21]
      refine g_laload (n := 800) (f := cl) rfl a8 (i_in (by omega) (by omega)) ?_
      rw [i_nat eba]
      refine g_l2i rfl ?_
      rw [R3 (A + i) (by omega)]
      refine g_aload_n (i := 0) rfl rfl ?_
      refine g_getfield (v := .ref 73) rfl hr (by decide) rfl ?_
      refine g_iload (i := 5) rfl rfl ?_
      refine g_ialv (n := 42) (f := wd) (v := wd (stS v + i)) rfl hw (i_in (by omega) (by omega)) (congrArg wd (i_nat ei)) ?_
      refine g_icmp_ne 75 rfl rfl (fun c2 => ?_) (fun c2 => ?_)
      · skip
        rw [if_neg c2] at hm
        exact hQ i hm
      · skip
        replace c2 : T (A + i) = wd (stS v + i) := c2
        rw [if_pos c2] at hm
        refine g_iinc (i := 4) (L1 := [some (.ref 60), some (.int p), some (.int far), some (.int (Int32.ofNat v)), some (.int ((Int32.ofNat (A + i)) + Int32.ofInt 1)), some (.int (Int32.ofNat (stS v + i)))]) rfl rfl rfl ?_
        rw [ofN_add (by omega)]
        refine g_iinc (i := 5) (L1 := [some (.ref 60), some (.int p), some (.int far), some (.int (Int32.ofNat v)), some (.int (Int32.ofNat (A + i + 1))), some (.int ((Int32.ofNat (stS v + i)) + Int32.ofInt 1))]) rfl rfl rfl ?_
        rw [ofN_add (by omega)]
        refine g_goto 24 rfl rfl ?_
        exact ih (i + 1) (by omega) hm
theorem s_word_p {d : Nat} {h : sHp} {J : Nat → Int32} {wd : Nat → Int32} {v : Nat} {far : Int32} {o4 o5 : Option Value} {Q : Option Value → sHp → Prop} (hr : h[60]? = some (mO J)) (hw : h[73]? = some (.inl (0, 42, .inl wd))) (W : WD wd) (hv : v < 7) (hQ : sGo none 193 d 121 [some (.ref 60), some (.int (Int32.ofNat (stS v + wlS v + 1))), some (.int far), some (.int (Int32.ofNat v)), o4, o5] [] h Q) : ∀ (f i : Nat), f + i = wlS v + 1 → sGo none 193 d 106 [some (.ref 60), some (.int (Int32.ofNat (stS v + i))), some (.int far), some (.int (Int32.ofNat v)), o4, o5] [] h Q := by
  have wl := wlS_le v
  have e0 : (0 : Int32).toInt = 0 := rfl
  intro f
  induction f with
  | zero =>
    intro i hi
    have hz := st_z v hv
    have ei := ofN_toInt (n := stS v + i) (by omega)
    have hwi : wd (stS v + i) = 0 := Int32.toInt_inj.mp (by rw [W _ (by omega), show stS v + i = stS v + wlS v + 1 by omega, hz.2, e0])
    refine g_aload_n (i := 0) rfl rfl ?_
    refine g_getfield (v := .ref 73) rfl hr (by decide) rfl ?_
    refine g_iload_n (i := 1) rfl rfl ?_
    refine g_ialv (n := 42) (f := wd) (v := wd (stS v + i)) rfl hw (i_in (by omega) (by omega)) (congrArg wd (i_nat ei)) ?_
    refine g_if_eq 121 rfl rfl (fun _ => ?_) (fun hc => absurd hc (by rw [hwi]; decide))
    rw [show stS v + i = stS v + wlS v + 1 by omega]
    exact hQ
  | succ f ih =>
    intro i hi
    have hz := st_nz v hv i (by omega)
    have ei := ofN_toInt (n := stS v + i) (by omega)
    have ewd := W (stS v + i) hz.1
    have hwi : ¬ wd (stS v + i) = 0 := fun z => hz.2 (by rw [← ewd, z]; rfl)
    refine g_aload_n (i := 0) rfl rfl ?_
    refine g_getfield (v := .ref 73) rfl hr (by decide) rfl ?_
    refine g_iload_n (i := 1) rfl rfl ?_
    refine g_ialv (n := 42) (f := wd) (v := wd (stS v + i)) rfl hw (i_in (by omega) (by omega)) (congrArg wd (i_nat ei)) ?_
    refine g_if_eq 121 rfl rfl (fun hc => absurd hc (by exact hwi)) (fun _ => ?_)
    refine g_iinc (i := 1) (L1 := [some (.ref 60), some (.int ((Int32.ofNat (stS v + i)) + Int32.ofInt 1)), some (.int far), some (.int (Int32.ofNat v)), o4, o5]) rfl rfl rfl ?_
    rw [ofN_add (by omega)]
    refine g_goto 106 rfl rfl ?_
    exact ih (i + 1) (by omega)
def qFw (h : sHp) (J : Nat → Int32) (A : Nat) (q : Option Nat) (r : Option Value) (h' : sHp) : Prop := ∃ J', h' = h.set 60 (mO J') ∧ jS J J' ∧ (match q with
  | some v => r = some (.int (Int32.ofNat v)) ∧ J' 22 = Int32.ofNat (A + (wlS v + 1))
  | none => r = some (.int (Int32.ofInt (-1))))
theorem s_word_go {d : Nat} {h : sHp} {J : Nat → Int32} {cl : Nat → Int64} {S n A : Nat} {T : Nat → Int32} {wd : Nat → Int32} (hr : h[60]? = some (mO J)) (a8 : h[71]? = some (.inl (1, 800, .inr (.inl cl)))) (R : RT cl S n T) (hJ : rtJ J S n A) (hA : A < 900) (hw : h[73]? = some (.inl (0, 42, .inl wd))) (W : WD wd) : ∀ (f v : Nat) (far : Int32) (o4 o5 : Option Value), f + v = 7 → sGo none 193 d 9 [some (.ref 60), some (.int (Int32.ofNat (if v < 7 then stS v else 42))), some (.int far), some (.int (Int32.ofNat v)), o4, o5] [] h (qFw h J A (fwS T wd A f v)) := by
  have hJc := hJ
  have Rc := R
  obtain ⟨j21, j22, j23⟩ := hJ
  have e7 : (Int8.ofInt 7).toInt32.toInt = 7 := rfl
  intro f
  induction f with
  | zero =>
    intro v far o4 o5 hv
    have ev := ofN_toInt (n := v) (by omega)
    refine g_iload_n (i := 3) rfl rfl ?_
    refine g_bipush (n := 7) rfl ?_
    refine g_icmp_ge 130 rfl rfl (fun _ => ?_) (fun hc => absurd hc (by rw [i_le, e7, ev]; omega))
    refine g_aload_n (i := 0) rfl rfl ?_
    refine g_iload_n (i := 2) rfl rfl ?_
    refine g_putfield (h1 := h.set 60 (mO (upd J 25 far))) rfl hr (by decide) (Nat.le_of_ble_eq_true rfl) rfl rfl ?_
    refine g_iconst (n := (-1)) rfl ?_
    refine g_ireturn (ty := .int) rfl rfl rfl ?_
    exact ⟨_, rfl, jS_up (jS_rfl J) (by omega), rfl⟩
  | succ f ih =>
    intro v far o4 o5 hv
    have ev := ofN_toInt (n := v) (by omega)
    have hv7 : v < 7 := by omega
    have wl := wlS_le v
    have hz := st_z v hv7
    rw [if_pos hv7]
    unfold fwS
    refine g_iload_n (i := 3) rfl rfl ?_
    refine g_bipush (n := 7) rfl ?_
    refine g_icmp_ge 130 rfl rfl (fun hc => absurd hc (by rw [i_le, e7, ev]; omega)) (fun _ => ?_)
    refine g_aload_n (i := 0) rfl rfl ?_
    refine g_getfield (v := .int (J 22)) rfl hr (by decide) rfl ?_
    rw [j22]
    refine g_istore (i := 4) (L1 := [some (.ref 60), some (.int (Int32.ofNat (stS v))), some (.int far), some (.int (Int32.ofNat v)), some (.int (Int32.ofNat A)), o5]) rfl (Nat.le_of_ble_eq_true rfl) rfl ?_
    refine g_iload_n (i := 1) rfl rfl ?_
    refine g_istore (i := 5) (L1 := [some (.ref 60), some (.int (Int32.ofNat (stS v))), some (.int far), some (.int (Int32.ofNat v)), some (.int (Int32.ofNat A)), some (.int (Int32.ofNat (stS v)))]) rfl (Nat.le_of_ble_eq_true rfl) rfl ?_
    refine s_word_in hr a8 Rc hJc hA hw W hv7 (fun m hm => ?_) (wlS v + 1) 0 rfl rfl
    have am := amS_le T wd A (stS v) (wlS v + 1) 0
    have em := ofN_toInt (n := stS v + m) (by omega)
    have eAm := ofN_toInt (n := A + m) (by omega)
    refine g_aload_n (i := 0) rfl rfl ?_
    refine g_getfield (v := .ref 73) rfl hr (by decide) rfl ?_
    refine g_iload (i := 5) rfl rfl ?_
    refine g_ialv (n := 42) (f := wd) (v := wd (stS v + m)) rfl hw (i_in (by omega) (by omega)) (congrArg wd (i_nat em)) ?_
    by_cases hf : amS T wd A (stS v) (wlS v + 1) 0 = wlS v + 1
    · skip
      rw [if_pos hf]
      have hw0 : wd (stS v + m) = 0 := Int32.toInt_inj.mp (by rw [W _ (by omega), show stS v + m = stS v + wlS v + 1 by omega, hz.2]; rfl)
      refine g_if_ne 93 rfl rfl (fun hc => absurd hc (by exact fun z => z hw0)) (fun _ => ?_)
      refine g_aload_n (i := 0) rfl rfl ?_
      refine g_iload (i := 4) rfl rfl ?_
      refine g_putfield (h1 := h.set 60 (mO (upd J 22 (Int32.ofNat (A + m))))) rfl hr (by decide) (Nat.le_of_ble_eq_true rfl) rfl rfl ?_
      refine g_iload_n (i := 3) rfl rfl ?_
      refine g_ireturn (ty := .int) rfl rfl rfl ?_
      exact ⟨_, rfl, jS_up (jS_rfl J) (by omega), rfl, by rw [show m = wlS v + 1 by omega]; rfl⟩
    · skip
      rw [if_neg hf]
      have hz2 := st_nz v hv7 m (by omega)
      have hw0 : ¬ wd (stS v + m) = 0 := fun z => hz2.2 (by rw [← W _ hz2.1, z]; rfl)
      refine g_if_ne 93 rfl rfl (fun _ => ?_) (fun hc => absurd hc (by exact hw0))
      have rest : ∀ far2 : Int32, sGo none 193 d 106 [some (.ref 60), some (.int (Int32.ofNat (stS v))), some (.int far2), some (.int (Int32.ofNat v)), some (.int (Int32.ofNat (A + m))), some (.int (Int32.ofNat (stS v + m)))] [] h (qFw h J A (fwS T wd A f (v + 1))) := by
        intro far2
        refine s_word_p (far := far2) hr hw W hv7 ?_ (wlS v + 1) 0 rfl
        refine g_iinc (i := 1) (L1 := [some (.ref 60), some (.int ((Int32.ofNat (stS v + wlS v + 1)) + Int32.ofInt 1)), some (.int far2), some (.int (Int32.ofNat v)), some (.int (Int32.ofNat (A + m))), some (.int (Int32.ofNat (stS v + m)))]) rfl rfl rfl ?_
        rw [ofN_add (by omega)]
        refine g_iinc (i := 3) (L1 := [some (.ref 60), some (.int (Int32.ofNat (stS v + wlS v + 1 + 1))), some (.int far2), some (.int ((Int32.ofNat v) + Int32.ofInt 1)), some (.int (Int32.ofNat (A + m))), some (.int (Int32.ofNat (stS v + m)))]) rfl rfl rfl ?_
        rw [ofN_add (by omega)]
        refine g_goto 9 rfl rfl ?_
        have es : stS v + wlS v + 1 + 1 = if v + 1 < 7 then stS (v + 1) else 42 := by
          by_cases c6 : v + 1 < 7
          · rw [if_pos c6, st_next v (by omega)]
          · rw [if_neg c6, show v = 6 by omega]
            decide
        rw [es]
        exact ih (v + 1) far2 _ _ (by omega)
      refine g_iload (i := 4) rfl rfl ?_
      refine g_iload_n (i := 2) rfl rfl ?_
      refine g_icmp_le 104 rfl rfl (fun c3 => ?_) (fun c3 => ?_)
      · skip
        refine g_iload_n (i := 2) rfl rfl ?_
        refine g_istore_n (i := 2) (L1 := [some (.ref 60), some (.int (Int32.ofNat (stS v))), some (.int far), some (.int (Int32.ofNat v)), some (.int (Int32.ofNat (A + m))), some (.int (Int32.ofNat (stS v + m)))]) rfl (Nat.le_of_ble_eq_true rfl) rfl ?_
        exact rest _
      · skip
        refine g_iload (i := 4) rfl rfl ?_
        refine g_goto 105 rfl rfl ?_
        refine g_istore_n (i := 2) (L1 := [some (.ref 60), some (.int (Int32.ofNat (stS v))), some (.int (Int32.ofNat (A + m))), some (.int (Int32.ofNat v)), some (.int (Int32.ofNat (A + m))), some (.int (Int32.ofNat (stS v + m)))]) rfl (Nat.le_of_ble_eq_true rfl) rfl ?_
        exact rest _
theorem s_wordE {d : Nat} {h : sHp} {J : Nat → Int32} {cl : Nat → Int64} {S n A : Nat} {T : Nat → Int32} {wd : Nat → Int32} (hr : h[60]? = some (mO J)) (a8 : h[71]? = some (.inl (1, 800, .inr (.inl cl)))) (R : RT cl S n T) (hJ : rtJ J S n A) (hA : A < 900) (hw : h[73]? = some (.inl (0, 42, .inl wd))) (W : WD wd) : sDo (d + 1) 193 [.ref 60] h (qFw h J A (fwS T wd A 7 0)) := by
  refine sDo_of (d := d) (nL := 6) (L := [some (.ref 60), none, none, none, none, none]) rfl rfl ?_
  refine g_iconst (n := 0) rfl ?_
  refine g_istore_n (i := 1) (L1 := [some (.ref 60), some (.int (Int32.ofInt 0)), none, none, none, none]) rfl (Nat.le_of_ble_eq_true rfl) rfl ?_
  refine g_aload_n (i := 0) rfl rfl ?_
  refine g_getfield (v := .int (J 22)) rfl hr (by decide) rfl ?_
  refine g_istore_n (i := 2) (L1 := [some (.ref 60), some (.int (Int32.ofInt 0)), some (.int (J 22)), none, none, none]) rfl (Nat.le_of_ble_eq_true rfl) rfl ?_
  refine g_iconst (n := 0) rfl ?_
  refine g_istore_n (i := 3) (L1 := [some (.ref 60), some (.int (Int32.ofInt 0)), some (.int (J 22)), some (.int (Int32.ofInt 0)), none, none]) rfl (Nat.le_of_ble_eq_true rfl) rfl ?_
  exact s_word_go hr a8 R hJ hA hw W 7 0 _ _ _ rfl
