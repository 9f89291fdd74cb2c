/-! ===== the best cut into two, the reference ===== -/
def mo (m : MF) (J ow : Nat → Int32) : MF := (J, m.2.1, ow, m.2.2.2)
def rX (hb h : sHp) (J ow : Nat → Int32) : Prop := h[60]? = some (mO J) ∧ h[63]? = some (.inl (0, 64, .inl ow)) ∧ h.length = hb.length ∧ ∀ q, q ≠ 60 → q ≠ 63 → h[q]? = hb[q]?
theorem rX_MC {hb h : sHp} {J ow : Nat → Int32} {m : MF} (x : rX hb h J ow) (M : MC hb m) : MC h (mo m J ow) := ⟨x.1, (x.2.2.2 62 (by decide) (by decide)).trans M.2.1, x.2.1, (x.2.2.2 64 (by decide) (by decide)).trans M.2.2.2.1, (x.2.2.2 65 (by decide) (by decide)).trans M.2.2.2.2.1, (x.2.2.2 66 (by decide) (by decide)).trans M.2.2.2.2.2⟩
theorem rX_ow {hb h : sHp} {J ow ow' : Nat → Int32} (x : rX hb h J ow) : rX hb (h.set 63 (.inl (0, 64, .inl ow'))) J ow' := ⟨by rw [s_set_ne (by decide)]; exact x.1, s_set_eq x.2.1, by rw [List.length_set]; exact x.2.2.1, fun q h1 h2 => by rw [s_set_ne (Ne.symm h2)]; exact x.2.2.2 q h1 h2⟩
theorem rX_60 {hb h h' : sHp} {J J' ow : Nat → Int32} (x : rX hb h J ow) (e : e60 h h') (hr : h'[60]? = some (mO J')) : rX hb h' J' ow := ⟨hr, (e.2 63 (by decide)).trans x.2.1, e.1.trans x.2.2.1, fun q h1 h2 => (e.2 q h1).trans (x.2.2.2 q h1 h2)⟩
def jE (J J' : Nat → Int32) : Prop := ∀ j, j ≠ 28 → j ≠ 32 → j ≠ 33 → j ≠ 34 → J' j = J j
theorem jE_rfl {J : Nat → Int32} : jE J J := fun _ _ _ _ _ => rfl
theorem jE_tr {a b c : Nat → Int32} (x : jE a b) (y : jE b c) : jE a c := fun j h1 h2 h3 h4 => (y j h1 h2 h3 h4).trans (x j h1 h2 h3 h4)
theorem RB_mo {c : CF} {m : MF} {J ow : Nat → Int32} (r : RB c m) (hj : ∀ j, j < 7 → J j = m.1 j) : RB c (mo m J ow) := RB_J7 (m := (m.1, m.2.1, ow, m.2.2.2)) (RB_no c m c.2.2.2.2.2.2 ow r) hj
theorem ssN_ow {m : MF} {ow : Nat → Int32} : ∀ k, ssN ((m.1, m.2.1, ow, m.2.2.2) : MF) k = ssN m k := by
  intro k
  induction k with
  | zero => rfl
  | succ k ih => exact congrArg (fun z => z + shN m k) ih
theorem fltP_ow {m : MF} {s : Sg} {S : Nat → Int64} {ow : Nat → Int32} : fltP ((m.1, m.2.1, ow, m.2.2.2) : MF) s S = fltP m s S := by
  refine funext fun f => funext fun i => ?_
  have k5 : F5 ((m.1, m.2.1, ow, m.2.2.2) : MF) (s.1 * s.2.1) s.2.2 i (S i) = F5 m (s.1 * s.2.1) s.2.2 i (S i) := by
    unfold F5
    rw [ssN_ow]
    rfl
  unfold fltP
  split
  · rfl
  · rfl
  · rfl
  · exact k5
theorem vdA_ow {m : MF} {s : Sg} {S : Nat → Int64} {ow : Nat → Int32} : vdA ((m.1, m.2.1, ow, m.2.2.2) : MF) s S = vdA m s S := by
  unfold vdA
  rw [fltP_ow]
theorem s_tryM {d : Nat} {h : sHp} {c : CF} {m : MF} {s : Sg} {x y : Int32} {C C2 : Nat} {t : T3} {J ow owc : Nat → Int32} (hd : 6 ≤ d) (M : MC h (mo m J ow)) (hj : ∀ j, j < 7 → J j = m.1 j) (gM : gdM m.1 s.1 s.2.1) (g : gdF c s.1 s.2.1) (r : RB c m) (sI : sgI c s) (sJ : sgJ m.1 s) (ho : ∀ q, q < s.1 * s.2.1 → ow q = owc q) (hin : ∀ q, q < s.1 * s.2.1 → ∃ k, k < 7 ∧ owc q = cdS k) (ht : t.2 ≤ 1000) (b : bsJ J t) (hx : x = Int32.ofNat C) (hy : y = Int32.ofNat C2) : sDo d 234 [.ref 60, .int x, .int y] h (fun rv h' => rv = none ∧ ∃ J', h'[60]? = some (mO J') ∧ jE J J' ∧ bsJ J' (trS m s C C2 owc t) ∧ e60 h h') := by
  have hn := gdF_n g
  have gd := gM
  obtain ⟨-, -, w2, w8, -, h8⟩ := gd
  have P : PT (ST owc (s.1 * s.2.1)) (mo m J ow).2.2.1 (s.1 * s.2.1) := PT_ext hn.1 (fun _ _ => rfl) ho (PT_ST hin)
  have key := s_try12 (x := x) (y := y) (C := C) (C2 := C2) hd M ⟨(hj 0 (by decide)).trans gM.1, (hj 1 (by decide)).trans gM.2.1, gM.2.2⟩ g (RB_mo r hj) sI ⟨(hj 0 (by decide)).trans sJ.1, (hj 1 (by decide)).trans sJ.2.1, (hj 6 (by decide)).trans sJ.2.2.1, sJ.2.2.2⟩ P ht b hx hy
  have e1 : hdN s.1 (s.1 * s.2.1) (mo m J ow).2.2.1 (s.1 * s.2.1) = hdN s.1 (s.1 * s.2.1) owc (s.1 * s.2.1) := hdN_ext w2 w8 h8 ho _ (Nat.le_refl _)
  have e2 : vdA (mo m J ow) s (ST owc (s.1 * s.2.1)) = vdA m s (ST owc (s.1 * s.2.1)) := (vdA_J (m := (m.1, m.2.1, ow, m.2.2.2)) hj).trans vdA_ow
  rw [e1, e2] at key
  exact key
theorem trS_J {m : MF} {s : Sg} {J2 ow : Nat → Int32} {C C2 : Nat} {t : T3} (hj : ∀ j, j < 7 → J2 j = m.1 j) : trS ((J2, m.2) : MF) s C C2 ow t = trS m s C C2 ow t := by
  unfold trS
  rw [vdA_J hj]
theorem twL_J {m : MF} {s : Sg} {J2 : Nat → Int32} (hj : ∀ j, j < 7 → J2 j = m.1 j) : ∀ (L : List Nat) (t : T3), twL ((J2, m.2) : MF) s L t = twL m s L t := by
  intro L
  induction L with
  | nil => intro t; rfl
  | cons C L ih =>
    intro t
    show twL ((J2, m.2) : MF) s L (trS ((J2, m.2) : MF) s C 1 (owT s.1 C 1) (trS ((J2, m.2) : MF) s C 0 (owT s.1 C 0) t)) = twL m s L (trS m s C 1 (owT s.1 C 1) (trS m s C 0 (owT s.1 C 0) t))
    rw [trS_J hj, trS_J hj, ih]
def twA (t : T3) (k : Int) : Int32 := match t.1 with
  | none => -5
  | some (a, b) => if k = 0 then Int32.ofNat a else if k = 1 then Int32.ofNat b else Int32.ofNat t.2
def qB (m : MF) (v : Int32) (rv : Option Value) (h' : sHp) : Prop := rv = some (.int v) ∧ ∃ ow', h'[63]? = some (.inl (0, 64, .inl ow')) ∧ ∀ q, q < 64 → ow' q = m.2.2.1 q
theorem s_two12_q0 {d : Nat} {hb h : sHp} {m : MF} {s : Sg} {J ow fc : Nat → Int32} {x : Int32} {i C : Nat} {Q : Option Value → sHp → Prop} (hd : 1 ≤ d) (X : rX hb h J ow) (g : gdM J s.1 s.2.1) (h76 : hb[76]? = some (.inl (0, 1000, .inl fc))) (hi : i < 1000) (hfc : fc i = Int32.ofNat C) (hC : C < 7000) (hQ : sGo none 235 d 109 [some (.ref 60), some (.int x), some (.int (Int32.ofNat i)), some (.int (Int32.ofInt 0)), some (.int (Int32.ofNat (s.1 * s.2.1)))] [] (h.set 63 (.inl (0, 64, .inl (fun q => if q < (s.1 * s.2.1) then owT s.1 C 0 q else ow q)))) Q) : ∀ (f k : Nat), k + f = (s.1 * s.2.1) → sGo none 235 d 60 [some (.ref 60), some (.int x), some (.int (Int32.ofNat i)), some (.int (Int32.ofInt 0)), some (.int (Int32.ofNat k))] [] (h.set 63 (.inl (0, 64, .inl (fun q => if q < k then owT s.1 C 0 q else ow q)))) Q := by
  have gd := g
  obtain ⟨gw, gh, w2, w8, h2, h8⟩ := gd
  have hn := gdM_n g
  have hw0 : (J 0).toInt = ((s.1 : Nat) : Int) := by rw [gw]; exact ofN_toInt (by omega)
  have hw1 : (J 1).toInt = ((s.2.1 : Nat) : Int) := by rw [gh]; exact ofN_toInt (by omega)
  have hwn : (J 0 * J 1).toInt = ((s.1 * s.2.1 : Nat) : Int) := n_mul hw0 hw1 (by omega)
  have hcx : (Int32.ofNat C).toInt = ((C : Nat) : Int) := ofC_toInt (by omega)
  have ei : (Int32.ofNat i).toInt = ((i : Nat) : Int) := ofC_toInt (by omega)
  intro f
  induction f with
  | zero =>
    intro k hk
    have eW : (s.1 * s.2.1) = k := by omega
    have ek := ofN_toInt (n := k) (by omega)
    have hr : (h.set 63 (.inl (0, 64, .inl (fun q => if q < k then owT s.1 C 0 q else ow q))))[60]? = some (mO J) := by rw [s_set_ne (by decide)]; exact X.1
    rw [eW] at hQ
    refine g_iload (i := 4) rfl rfl ?_
    refine g_aload_n (i := 0) rfl rfl ?_
    refine g_getfield (v := .int (J 0)) rfl hr (by decide) rfl ?_
    refine g_aload_n (i := 0) rfl rfl ?_
    refine g_getfield (v := .int (J 1)) rfl hr (by decide) rfl ?_
    refine g_imul rfl ?_
    refine g_icmp_ge 109 rfl rfl (fun _ => ?_) (fun hc => absurd hc (by rw [i_le, hwn, ek]; omega))
    exact hQ
  | succ f ih =>
    intro k hk
    have ek := ofN_toInt (n := k) (by omega)
    have hr : (h.set 63 (.inl (0, 64, .inl (fun q => if q < k then owT s.1 C 0 q else ow q))))[60]? = some (mO J) := by rw [s_set_ne (by decide)]; exact X.1
    have h63 : (h.set 63 (.inl (0, 64, .inl (fun q => if q < k then owT s.1 C 0 q else ow q))))[63]? = some (.inl (0, 64, .inl (fun q => if q < k then owT s.1 C 0 q else ow q))) := s_set_eq X.2.1
    have c76 : (h.set 63 (.inl (0, 64, .inl (fun q => if q < k then owT s.1 C 0 q else ow q))))[76]? = some (.inl (0, 1000, .inl fc)) := by rw [s_set_ne (by decide)]; exact (X.2.2.2 76 (by decide) (by decide)).trans h76
    have ef : ∀ v : Int32, v = owT s.1 C 0 k → upd (fun q => if q < k then owT s.1 C 0 q else ow q) k v = (fun q => if q < (k + 1) then owT s.1 C 0 q else ow q) := fun v hv => funext fun q => by
      by_cases e : q = k
      · rw [e, u_at, hv]; exact (if_pos (by omega)).symm
      · rw [u_ne e]
        by_cases l : q < k
        · exact (if_pos l).trans (if_pos (by omega)).symm
        · exact (if_neg l).trans (if_neg (by omega)).symm
    obtain ⟨hz, ehz⟩ : ∃ z, z = (h.set 63 (.inl (0, 64, .inl (fun q => if q < k then owT s.1 C 0 q else ow q)))) := ⟨_, rfl⟩
    rw [← ehz] at hr h63 c76 ⊢
    refine g_iload (i := 4) rfl rfl ?_
    refine g_aload_n (i := 0) rfl rfl ?_
    refine g_getfield (v := .int (J 0)) rfl hr (by decide) rfl ?_
    refine g_aload_n (i := 0) rfl rfl ?_
    refine g_getfield (v := .int (J 1)) rfl hr (by decide) rfl ?_
    refine g_imul rfl ?_
    refine g_icmp_ge 109 rfl rfl (fun hc => absurd hc (by rw [i_le, hwn, ek]; omega)) (fun _ => ?_)
    refine g_aload_n (i := 0) rfl rfl ?_
    refine g_getfield (v := .ref 63) rfl hr (by decide) rfl ?_
    refine g_iload (i := 4) rfl rfl ?_
    refine g_aload_n (i := 0) rfl rfl ?_
    refine g_aload_n (i := 0) rfl rfl ?_
    refine g_getfield (v := .ref 76) rfl hr (by decide) rfl ?_
    refine g_iload_n (i := 2) rfl rfl ?_
    refine g_iaload (n := 1000) (f := fc) rfl c76 (i_in (by omega) (by omega)) ?_
    rw [i_nat ei, hfc]
    refine g_iload (i := 4) rfl rfl ?_
    refine g_virt2 (Qc := fun r h' => h' = hz ∧ (((isF s.1 C k = true) ∧ r = some (.int 1)) ∨ (¬ (isF s.1 C k = true) ∧ r = some (.int 0)))) rfl (by decide) rfl hr rfl (Nat.le_of_ble_eq_true rfl) (s_isFirst2 (W := s.1) (H := s.2.1) (q := k) (by omega) hr g hcx hC (by omega)) (fun r hz hq9 => ?_)
    obtain ⟨rfl, ⟨c_1, rfl⟩ | ⟨c_1, rfl⟩⟩ := hq9
    · skip
      refine g_if_eq 99 rfl rfl (fun hc => absurd hc (by decide)) (fun _ => ?_)
      refine g_iload_n (i := 3) rfl rfl ?_
      refine g_goto 102 rfl rfl ?_
      refine g_iastore (n := 64) (f := (fun q => if q < k then owT s.1 C 0 q else ow q)) (h1 := (h.set 63 (.inl (0, 64, .inl (fun q => if q < (k + 1) then owT s.1 C 0 q else ow q))))) rfl h63 (i_in (by omega) (by omega)) (by rw [i_nat ek, ehz, List.set_set, ef ((Int32.ofInt 0)) ((show (Int32.ofInt 0) = Int32.ofNat 0 by decide).trans (if_pos c_1).symm)]) ?_
      refine g_iinc (i := 4) (L1 := [some (.ref 60), some (.int x), some (.int (Int32.ofNat i)), some (.int (Int32.ofInt 0)), some (.int ((Int32.ofNat k) + Int32.ofInt 1))]) rfl rfl rfl ?_
      rw [ofN_add (by omega)]
      refine g_goto 60 rfl rfl ?_
      exact ih (k + 1) (by omega)
    · skip
      refine g_if_eq 99 rfl rfl (fun _ => ?_) (fun hc => absurd hc (by decide))
      refine g_iconst (n := 1) rfl ?_
      refine g_iload_n (i := 3) rfl rfl ?_
      refine g_isub rfl ?_
      refine g_iastore (n := 64) (f := (fun q => if q < k then owT s.1 C 0 q else ow q)) (h1 := (h.set 63 (.inl (0, 64, .inl (fun q => if q < (k + 1) then owT s.1 C 0 q else ow q))))) rfl h63 (i_in (by omega) (by omega)) (by rw [i_nat ek, ehz, List.set_set, ef (((Int32.ofInt 1) - (Int32.ofInt 0))) ((show ((Int32.ofInt 1) - (Int32.ofInt 0)) = Int32.ofNat (1 - 0) by decide).trans (if_neg c_1).symm)]) ?_
      refine g_iinc (i := 4) (L1 := [some (.ref 60), some (.int x), some (.int (Int32.ofNat i)), some (.int (Int32.ofInt 0)), some (.int ((Int32.ofNat k) + Int32.ofInt 1))]) rfl rfl rfl ?_
      rw [ofN_add (by omega)]
      refine g_goto 60 rfl rfl ?_
      exact ih (k + 1) (by omega)
theorem s_two12_q1 {d : Nat} {hb h : sHp} {m : MF} {s : Sg} {J ow fc : Nat → Int32} {x : Int32} {i C : Nat} {Q : Option Value → sHp → Prop} (hd : 1 ≤ d) (X : rX hb h J ow) (g : gdM J s.1 s.2.1) (h76 : hb[76]? = some (.inl (0, 1000, .inl fc))) (hi : i < 1000) (hfc : fc i = Int32.ofNat C) (hC : C < 7000) (hQ : sGo none 235 d 109 [some (.ref 60), some (.int x), some (.int (Int32.ofNat i)), some (.int (Int32.ofInt 1)), some (.int (Int32.ofNat (s.1 * s.2.1)))] [] (h.set 63 (.inl (0, 64, .inl (fun q => if q < (s.1 * s.2.1) then owT s.1 C 1 q else ow q)))) Q) : ∀ (f k : Nat), k + f = (s.1 * s.2.1) → sGo none 235 d 60 [some (.ref 60), some (.int x), some (.int (Int32.ofNat i)), some (.int (Int32.ofInt 1)), some (.int (Int32.ofNat k))] [] (h.set 63 (.inl (0, 64, .inl (fun q => if q < k then owT s.1 C 1 q else ow q)))) Q := by
  have gd := g
  obtain ⟨gw, gh, w2, w8, h2, h8⟩ := gd
  have hn := gdM_n g
  have hw0 : (J 0).toInt = ((s.1 : Nat) : Int) := by rw [gw]; exact ofN_toInt (by omega)
  have hw1 : (J 1).toInt = ((s.2.1 : Nat) : Int) := by rw [gh]; exact ofN_toInt (by omega)
  have hwn : (J 0 * J 1).toInt = ((s.1 * s.2.1 : Nat) : Int) := n_mul hw0 hw1 (by omega)
  have hcx : (Int32.ofNat C).toInt = ((C : Nat) : Int) := ofC_toInt (by omega)
  have ei : (Int32.ofNat i).toInt = ((i : Nat) : Int) := ofC_toInt (by omega)
  intro f
  induction f with
  | zero =>
    intro k hk
    have eW : (s.1 * s.2.1) = k := by omega
    have ek := ofN_toInt (n := k) (by omega)
    have hr : (h.set 63 (.inl (0, 64, .inl (fun q => if q < k then owT s.1 C 1 q else ow q))))[60]? = some (mO J) := by rw [s_set_ne (by decide)]; exact X.1
    rw [eW] at hQ
    refine g_iload (i := 4) rfl rfl ?_
    refine g_aload_n (i := 0) rfl rfl ?_
    refine g_getfield (v := .int (J 0)) rfl hr (by decide) rfl ?_
    refine g_aload_n (i := 0) rfl rfl ?_
    refine g_getfield (v := .int (J 1)) rfl hr (by decide) rfl ?_
    refine g_imul rfl ?_
    refine g_icmp_ge 109 rfl rfl (fun _ => ?_) (fun hc => absurd hc (by rw [i_le, hwn, ek]; omega))
    exact hQ
  | succ f ih =>
    intro k hk
    have ek := ofN_toInt (n := k) (by omega)
    have hr : (h.set 63 (.inl (0, 64, .inl (fun q => if q < k then owT s.1 C 1 q else ow q))))[60]? = some (mO J) := by rw [s_set_ne (by decide)]; exact X.1
    have h63 : (h.set 63 (.inl (0, 64, .inl (fun q => if q < k then owT s.1 C 1 q else ow q))))[63]? = some (.inl (0, 64, .inl (fun q => if q < k then owT s.1 C 1 q else ow q))) := s_set_eq X.2.1
    have c76 : (h.set 63 (.inl (0, 64, .inl (fun q => if q < k then owT s.1 C 1 q else ow q))))[76]? = some (.inl (0, 1000, .inl fc)) := by rw [s_set_ne (by decide)]; exact (X.2.2.2 76 (by decide) (by decide)).trans h76
    have ef : ∀ v : Int32, v = owT s.1 C 1 k → upd (fun q => if q < k then owT s.1 C 1 q else ow q) k v = (fun q => if q < (k + 1) then owT s.1 C 1 q else ow q) := fun v hv => funext fun q => by
      by_cases e : q = k
      · rw [e, u_at, hv]; exact (if_pos (by omega)).symm
      · rw [u_ne e]
        by_cases l : q < k
        · exact (if_pos l).trans (if_pos (by omega)).symm
        · exact (if_neg l).trans (if_neg (by omega)).symm
    obtain ⟨hz, ehz⟩ : ∃ z, z = (h.set 63 (.inl (0, 64, .inl (fun q => if q < k then owT s.1 C 1 q else ow q)))) := ⟨_, rfl⟩
    rw [← ehz] at hr h63 c76 ⊢
    refine g_iload (i := 4) rfl rfl ?_
    refine g_aload_n (i := 0) rfl rfl ?_
    refine g_getfield (v := .int (J 0)) rfl hr (by decide) rfl ?_
    refine g_aload_n (i := 0) rfl rfl ?_
    refine g_getfield (v := .int (J 1)) rfl hr (by decide) rfl ?_
    refine g_imul rfl ?_
    refine g_icmp_ge 109 rfl rfl (fun hc => absurd hc (by rw [i_le, hwn, ek]; omega)) (fun _ => ?_)
    refine g_aload_n (i := 0) rfl rfl ?_
    refine g_getfield (v := .ref 63) rfl hr (by decide) rfl ?_
    refine g_iload (i := 4) rfl rfl ?_
    refine g_aload_n (i := 0) rfl rfl ?_
    refine g_aload_n (i := 0) rfl rfl ?_
    refine g_getfield (v := .ref 76) rfl hr (by decide) rfl ?_
    refine g_iload_n (i := 2) rfl rfl ?_
    refine g_iaload (n := 1000) (f := fc) rfl c76 (i_in (by omega) (by omega)) ?_
    rw [i_nat ei, hfc]
    refine g_iload (i := 4) rfl rfl ?_
    refine g_virt2 (Qc := fun r h' => h' = hz ∧ (((isF s.1 C k = true) ∧ r = some (.int 1)) ∨ (¬ (isF s.1 C k = true) ∧ r = some (.int 0)))) rfl (by decide) rfl hr rfl (Nat.le_of_ble_eq_true rfl) (s_isFirst2 (W := s.1) (H := s.2.1) (q := k) (by omega) hr g hcx hC (by omega)) (fun r hz hq9 => ?_)
    obtain ⟨rfl, ⟨c_1, rfl⟩ | ⟨c_1, rfl⟩⟩ := hq9
    · skip
      refine g_if_eq 99 rfl rfl (fun hc => absurd hc (by decide)) (fun _ => ?_)
      refine g_iload_n (i := 3) rfl rfl ?_
      refine g_goto 102 rfl rfl ?_
      refine g_iastore (n := 64) (f := (fun q => if q < k then owT s.1 C 1 q else ow q)) (h1 := (h.set 63 (.inl (0, 64, .inl (fun q => if q < (k + 1) then owT s.1 C 1 q else ow q))))) rfl h63 (i_in (by omega) (by omega)) (by rw [i_nat ek, ehz, List.set_set, ef ((Int32.ofInt 1)) ((show (Int32.ofInt 1) = Int32.ofNat 1 by decide).trans (if_pos c_1).symm)]) ?_
      refine g_iinc (i := 4) (L1 := [some (.ref 60), some (.int x), some (.int (Int32.ofNat i)), some (.int (Int32.ofInt 1)), some (.int ((Int32.ofNat k) + Int32.ofInt 1))]) rfl rfl rfl ?_
      rw [ofN_add (by omega)]
      refine g_goto 60 rfl rfl ?_
      exact ih (k + 1) (by omega)
    · skip
      refine g_if_eq 99 rfl rfl (fun _ => ?_) (fun hc => absurd hc (by decide))
      refine g_iconst (n := 1) rfl ?_
      refine g_iload_n (i := 3) rfl rfl ?_
      refine g_isub rfl ?_
      refine g_iastore (n := 64) (f := (fun q => if q < k then owT s.1 C 1 q else ow q)) (h1 := (h.set 63 (.inl (0, 64, .inl (fun q => if q < (k + 1) then owT s.1 C 1 q else ow q))))) rfl h63 (i_in (by omega) (by omega)) (by rw [i_nat ek, ehz, List.set_set, ef (((Int32.ofInt 1) - (Int32.ofInt 1))) ((show ((Int32.ofInt 1) - (Int32.ofInt 1)) = Int32.ofNat (1 - 1) by decide).trans (if_neg c_1).symm)]) ?_
      refine g_iinc (i := 4) (L1 := [some (.ref 60), some (.int x), some (.int (Int32.ofNat i)), some (.int (Int32.ofInt 1)), some (.int ((Int32.ofNat k) + Int32.ofInt 1))]) rfl rfl rfl ?_
      rw [ofN_add (by omega)]
      refine g_goto 60 rfl rfl ?_
      exact ih (k + 1) (by omega)
theorem s_two12_go {d : Nat} {hb : sHp} {c : CF} {m : MF} {s : Sg} {L : List Nat} {Jb fc : Nat → Int32} {x : Int32} {fin : T3} {Q : Option Value → sHp → Prop} (hd : 6 ≤ d) (M : MC hb m) (hb7 : ∀ j, j < 7 → Jb j = m.1 j) (gM : gdM m.1 s.1 s.2.1) (g : gdF c s.1 s.2.1) (r : RB c m) (sI : sgI c s) (sJ : sgJ m.1 s) (hk : ∀ C ∈ L, C < 7000 ∧ ¬ C / 1000 = 3) (hl : L.length ≤ 644) (j31 : Jb 31 = Int32.ofNat L.length) (h76 : hb[76]? = some (.inl (0, 1000, .inl fc))) (p1 : ∀ j C, L[j]? = some C → fc j = Int32.ofNat C) (hQ : ∀ (J ow : Nat → Int32) (h : sHp) (o2 o3 o4 : Option Value), rX hb h J ow → jE Jb J → bsJ J fin → sGo none 235 d 132 [some (.ref 60), some (.int x), o2, o3, o4] [] h Q) : ∀ (R P : List Nat) (t : T3) (J ow : Nat → Int32) (h : sHp) (o3 o4 : Option Value), L = P ++ R → rX hb h J ow → jE Jb J → bsJ J t → t.2 ≤ 1000 → twL m s R t = fin → sGo none 235 d 42 [some (.ref 60), some (.int x), some (.int (Int32.ofNat P.length)), o3, o4] [] h Q := by
  have hn := gdF_n g
  intro R
  induction R with
  | nil =>
    intro P t J ow h o3 o4 hL X hJ b ht hf
    rw [List.append_nil] at hL
    subst hL
    have hf : t = fin := hf
    subst hf
    have hr := X.1
    have el := ofN_toInt (n := L.length) (by omega)
    have e6 : (J 31).toInt = ((L.length : Nat) : Int) := by rw [hJ 31 (by decide) (by decide) (by decide) (by decide), j31]; exact el
    refine g_iload_n (i := 2) rfl rfl ?_
    refine g_aload_n (i := 0) rfl rfl ?_
    refine g_getfield (v := .int (J 31)) rfl hr (by decide) rfl ?_
    refine g_icmp_ge 132 rfl rfl (fun _ => ?_) (fun hc => absurd hc (by rw [i_le, e6, el]; omega))
    exact hQ _ _ _ _ _ _ X hJ b
  | cons C R ih =>
    intro P t J ow h o3 o4 hL X hJ b ht hf
    obtain ⟨hat, hL2, hP1, hlen⟩ := two_go hL
    have hr := X.1
    have el := ofN_toInt (n := P.length) (by omega)
    have e6 : (J 31).toInt = ((L.length : Nat) : Int) := by rw [hJ 31 (by decide) (by decide) (by decide) (by decide), j31]; exact ofN_toInt (by omega)
    have hC := hk C (by rw [hL]; exact List.mem_append_right _ (List.mem_cons_self ..))
    have hfc := p1 P.length C hat
    have hj7 : ∀ j, j < 7 → J j = m.1 j := fun j hj => (hJ j (by omega) (by omega) (by omega) (by omega)).trans (hb7 j hj)
    refine g_iload_n (i := 2) rfl rfl ?_
    refine g_aload_n (i := 0) rfl rfl ?_
    refine g_getfield (v := .int (J 31)) rfl hr (by decide) rfl ?_
    refine g_icmp_ge 132 rfl rfl (fun hc => absurd hc (by rw [i_le, e6, el]; omega)) (fun _ => ?_)
    refine g_iconst (n := 0) rfl ?_
    refine g_istore_n (i := 3) (L1 := [some (.ref 60), some (.int x), some (.int (Int32.ofNat P.length)), some (.int (Int32.ofInt 0)), o4]) rfl (Nat.le_of_ble_eq_true rfl) rfl ?_
    show sGo none 235 _ 52 [some (.ref 60), some (.int x), some (.int (Int32.ofNat P.length)), some (.int (Int32.ofInt 0)), o4] [] _ _
    refine g_iload_n (i := 3) rfl rfl ?_
    refine g_iconst (n := 2) rfl ?_
    refine g_icmp_ge 126 rfl rfl (fun hc => absurd hc (by decide)) (fun _ => ?_)
    refine g_iconst (n := 0) rfl ?_
    refine g_istore (i := 4) (L1 := [some (.ref 60), some (.int x), some (.int (Int32.ofNat P.length)), some (.int (Int32.ofInt 0)), some (.int (Int32.ofInt 0))]) rfl (Nat.le_of_ble_eq_true rfl) rfl ?_
    have e0_0 : h = h.set 63 (.inl (0, 64, .inl (fun q => if q < 0 then owT s.1 C 0 q else ow q))) := List.ext_getElem? (fun i => by
      by_cases e : i = 63
      · rw [e, s_set_eq X.2.1, X.2.1]
        exact congrArg (fun f => (some (.inl (0, 64, .inl f)) : Option va_E)) (funext fun i => (if_neg (Nat.not_lt_zero i)).symm)
      · rw [s_set_ne (Ne.symm e)])
    rw [e0_0]
    refine s_two12_q0 (hb := hb) (m := m) (s := s) (C := C) (by omega) X ⟨(hj7 0 (by decide)).trans gM.1, (hj7 1 (by decide)).trans gM.2.1, gM.2.2⟩ h76 (by omega) hfc hC.1 ?_ (s.1 * s.2.1) 0 (Nat.zero_add _)
    have XA0 := rX_ow (ow' := (fun q => if q < (s.1 * s.2.1) then owT s.1 C 0 q else ow q)) X
    have hA0 := XA0.1
    have cA0 := (XA0.2.2.2 76 (by decide) (by decide)).trans h76
    have MA0 := rX_MC XA0 M
    refine g_aload_n (i := 0) rfl rfl ?_
    refine g_aload_n (i := 0) rfl rfl ?_
    refine g_getfield (v := .ref 76) rfl hA0 (by decide) rfl ?_
    refine g_iload_n (i := 2) rfl rfl ?_
    refine g_iaload (n := 1000) (f := fc) rfl cA0 (i_in (by omega) (by omega)) ?_
    rw [i_nat el, hfc]
    refine g_iload_n (i := 3) rfl rfl ?_
    refine g_virt2 rfl (by decide) rfl hA0 rfl (Nat.le_of_ble_eq_true rfl) (s_tryM (d := d) (m := m) (s := s) (c := c) (owc := owT s.1 C 0) (C := C) (C2 := 0) (t := t) hd MA0 hj7 gM g r sI sJ (fun q hq => if_pos hq) (fun q _ => owT_in (by decide)) ht b rfl rfl) (fun r1 h1 hq => ?_)
    obtain ⟨rfl, J1, hr1, eJ1, b1, E1⟩ := hq
    have X1 := rX_60 XA0 E1 hr1
    have hJ1 := jE_tr hJ eJ1
    have hj1 : ∀ j, j < 7 → J1 j = m.1 j := fun j hj => (hJ1 j (by omega) (by omega) (by omega) (by omega)).trans (hb7 j hj)
    have ht1 : ((trS m s C 0 (owT s.1 C 0) t)).2 ≤ 1000 := trS_le ht
    refine g_iinc (i := 3) (L1 := [some (.ref 60), some (.int x), some (.int (Int32.ofNat P.length)), some (.int ((Int32.ofInt 0) + Int32.ofInt 1)), some (.int (Int32.ofNat (s.1 * s.2.1)))]) rfl rfl rfl ?_
    refine g_goto 52 rfl rfl ?_
    show sGo none 235 _ 52 [some (.ref 60), some (.int x), some (.int (Int32.ofNat P.length)), some (.int (Int32.ofInt 1)), some (.int (Int32.ofNat (s.1 * s.2.1)))] [] _ _
    refine g_iload_n (i := 3) rfl rfl ?_
    refine g_iconst (n := 2) rfl ?_
    refine g_icmp_ge 126 rfl rfl (fun hc => absurd hc (by decide)) (fun _ => ?_)
    refine g_iconst (n := 0) rfl ?_
    refine g_istore (i := 4) (L1 := [some (.ref 60), some (.int x), some (.int (Int32.ofNat P.length)), some (.int (Int32.ofInt 1)), some (.int (Int32.ofInt 0))]) rfl (Nat.le_of_ble_eq_true rfl) rfl ?_
    have e0_1 : h1 = h1.set 63 (.inl (0, 64, .inl (fun q => if q < 0 then owT s.1 C 1 q else (fun q => if q < (s.1 * s.2.1) then owT s.1 C 0 q else ow q) q))) := List.ext_getElem? (fun i => by
      by_cases e : i = 63
      · rw [e, s_set_eq X1.2.1, X1.2.1]
        exact congrArg (fun f => (some (.inl (0, 64, .inl f)) : Option va_E)) (funext fun i => (if_neg (Nat.not_lt_zero i)).symm)
      · rw [s_set_ne (Ne.symm e)])
    rw [e0_1]
    refine s_two12_q1 (hb := hb) (m := m) (s := s) (C := C) (by omega) X1 ⟨(hj1 0 (by decide)).trans gM.1, (hj1 1 (by decide)).trans gM.2.1, gM.2.2⟩ h76 (by omega) hfc hC.1 ?_ (s.1 * s.2.1) 0 (Nat.zero_add _)
    have XA1 := rX_ow (ow' := (fun q => if q < (s.1 * s.2.1) then owT s.1 C 1 q else (fun q => if q < (s.1 * s.2.1) then owT s.1 C 0 q else ow q) q)) X1
    have hA1 := XA1.1
    have cA1 := (XA1.2.2.2 76 (by decide) (by decide)).trans h76
    have MA1 := rX_MC XA1 M
    refine g_aload_n (i := 0) rfl rfl ?_
    refine g_aload_n (i := 0) rfl rfl ?_
    refine g_getfield (v := .ref 76) rfl hA1 (by decide) rfl ?_
    refine g_iload_n (i := 2) rfl rfl ?_
    refine g_iaload (n := 1000) (f := fc) rfl cA1 (i_in (by omega) (by omega)) ?_
    rw [i_nat el, hfc]
    refine g_iload_n (i := 3) rfl rfl ?_
    refine g_virt2 rfl (by decide) rfl hA1 rfl (Nat.le_of_ble_eq_true rfl) (s_tryM (d := d) (m := m) (s := s) (c := c) (owc := owT s.1 C 1) (C := C) (C2 := 1) (t := (trS m s C 0 (owT s.1 C 0) t)) hd MA1 hj1 gM g r sI sJ (fun q hq => if_pos hq) (fun q _ => owT_in (by decide)) ht1 b1 rfl rfl) (fun r2 h2 hq => ?_)
    obtain ⟨rfl, J2, hr2, eJ2, b2, E2⟩ := hq
    have X2 := rX_60 XA1 E2 hr2
    have hJ2 := jE_tr hJ1 eJ2
    have hj2 : ∀ j, j < 7 → J2 j = m.1 j := fun j hj => (hJ2 j (by omega) (by omega) (by omega) (by omega)).trans (hb7 j hj)
    have ht2 : ((trS m s C 1 (owT s.1 C 1) (trS m s C 0 (owT s.1 C 0) t))).2 ≤ 1000 := trS_le ht1
    refine g_iinc (i := 3) (L1 := [some (.ref 60), some (.int x), some (.int (Int32.ofNat P.length)), some (.int ((Int32.ofInt 1) + Int32.ofInt 1)), some (.int (Int32.ofNat (s.1 * s.2.1)))]) rfl rfl rfl ?_
    refine g_goto 52 rfl rfl ?_
    show sGo none 235 _ 52 [some (.ref 60), some (.int x), some (.int (Int32.ofNat P.length)), some (.int (Int32.ofInt 2)), some (.int (Int32.ofNat (s.1 * s.2.1)))] [] _ _
    refine g_iload_n (i := 3) rfl rfl ?_
    refine g_iconst (n := 2) rfl ?_
    refine g_icmp_ge 126 rfl rfl (fun _ => ?_) (fun hc => absurd hc (by exact fun z => z (by decide)))
    refine g_iinc (i := 2) (L1 := [some (.ref 60), some (.int x), some (.int ((Int32.ofNat P.length) + Int32.ofInt 1)), some (.int (Int32.ofInt 2)), some (.int (Int32.ofNat (s.1 * s.2.1)))]) rfl rfl rfl ?_
    rw [ofN_add (by omega)]
    refine g_goto 42 rfl rfl ?_
    have key := ih (P ++ [C]) _ J2 _ h2 (some (.int (Int32.ofInt 2))) (some (.int (Int32.ofNat (s.1 * s.2.1)))) hL2 X2 hJ2 b2 ht2 hf
    rw [hP1] at key
    exact key
theorem s_two12 {d : Nat} {h : sHp} {c : CF} {m : MF} {s : Sg} {sp fc R : Nat → Int32} {x : Int32} (hd : 8 ≤ d) (M : MC h m) (hR : h[61]? = some (rFc R)) (gM : gdM m.1 s.1 s.2.1) (g : gdF c s.1 s.2.1) (r : RB c m) (sI : sgI c s) (sJ : sgJ m.1 s) (h76 : h[76]? = some (.inl (0, 1000, .inl fc))) (h77 : h[77]? = some (.inl (0, 64, .inl sp))) (h2 : s.2.2 = 2) (hx : 0 ≤ x.toInt ∧ x.toInt ≤ 2) : sDo d 235 [.ref 60, .int x] h (qB m (twA (twL m s (lsT s.1 s.2.1 true false) (none, 1000)) x.toInt)) := by
  have w8 := gM.2.2.2.1
  have h8 := gM.2.2.2.2.2
  have hn := gdF_n g
  have e774 : m.1 6 = Int32.ofInt 2 := by rw [sJ.2.2.1, h2]; rfl
  refine sDo_of1 (nL := 5) (L := [some (.ref 60), some (.int x), none, none, none]) (by omega) rfl rfl ?_
  refine g_aload_n (i := 0) rfl rfl ?_
  refine g_getfield (v := .int (m.1 6)) rfl M.1 (by decide) rfl ?_
  refine g_iconst (n := 2) rfl ?_
  refine g_icmp_ne 17 rfl rfl (fun hc => absurd hc (by exact fun z => z e774)) (fun _ => ?_)
  refine g_iload_n (i := 1) rfl rfl ?_
  have k_2 : (0 : Int32).toInt = 0 := rfl
  refine g_if_lt 17 rfl rfl (fun c_1 => ?_) (fun c_1 => ?_)
  · skip
    rw [i_lt, k_2] at c_1
    exfalso; omega
  · skip
    rw [i_lt, k_2] at c_1
    refine g_iload_n (i := 1) rfl rfl ?_
    refine g_iconst (n := 2) rfl ?_
    have k_4 : (Int32.ofInt 2).toInt = 2 := rfl
    refine g_icmp_le 24 rfl rfl (fun c_3 => ?_) (fun c_3 => ?_)
    · skip
      rw [i_le, k_4] at c_3
      refine g_aload_n (i := 0) rfl rfl ?_
      refine g_iconst (n := 0) rfl ?_
      refine g_virt1 rfl (by decide) rfl M.1 rfl (Nat.le_of_ble_eq_true rfl) (s_save12 (d := d - 1) (by omega) M.1 M.2.2.1 h77) (fun r1 ha hq => ?_)
      obtain ⟨rfl, rfl⟩ := hq
      have hrA : (h.set 77 (.inl (0, 64, .inl (fun i => if i < 64 then m.2.2.1 i else sp i))))[60]? = some (mO m.1) := by rw [s_set_ne (by decide)]; exact M.1
      refine g_aload_n (i := 0) rfl rfl ?_
      refine g_bipush (n := 22) rfl ?_
      have hls := s_lists12 (d := d - 1) (kd := (Int8.ofInt 22).toInt32) (b4 := true) (b32 := false) (by omega) gM hrA (by rw [s_set_ne (by decide)]; exact h76) (by decide) (by decide) (by decide) (by decide)
      refine g_virt1 rfl (by decide) rfl hrA rfl (Nat.le_of_ble_eq_true rfl) hls (fun r2 hl hq => ?_)
      obtain ⟨rfl, ⟨J2, fc2, hr2, b2, j31, g76, p1⟩, E2⟩ := hq
      refine g_aload_n (i := 0) rfl rfl ?_
      refine g_iconst (n := (-1)) rfl ?_
      refine g_putfield (h1 := hl.set 60 (mO (upd J2 34 (Int32.ofInt (-1))))) rfl hr2 (by decide) (Nat.le_of_ble_eq_true rfl) rfl rfl ?_
      have o77 : ∀ q, q ≠ 60 → q ≠ 76 → q ≠ 77 → (hl.set 60 (mO (upd J2 34 (Int32.ofInt (-1)))))[q]? = h[q]? := fun q h1 h2 h3 => by rw [s_set_ne (Ne.symm h1), E2.2 q h1 h2, s_set_ne (Ne.symm h3)]
      have MB : MC (hl.set 60 (mO (upd J2 34 (Int32.ofInt (-1))))) ((upd J2 34 (Int32.ofInt (-1)), m.2) : MF) := ⟨s_set_eq hr2, (o77 62 (by decide) (by decide) (by decide)).trans M.2.1, (o77 63 (by decide) (by decide) (by decide)).trans M.2.2.1, (o77 64 (by decide) (by decide) (by decide)).trans M.2.2.2.1, (o77 65 (by decide) (by decide) (by decide)).trans M.2.2.2.2.1, (o77 66 (by decide) (by decide) (by decide)).trans M.2.2.2.2.2⟩
      have b7 : ∀ j, j < 7 → upd J2 34 (Int32.ofInt (-1)) j = m.1 j := fun j hj => (u_ne (by omega)).trans (b2 j (by omega))
      have c77 : (hl.set 60 (mO (upd J2 34 (Int32.ofInt (-1)))))[77]? = some (.inl (0, 64, .inl (fun i => if i < 64 then m.2.2.1 i else sp i))) := by rw [s_set_ne (by decide), E2.2 77 (by decide) (by decide)]; exact s_set_eq h77
      have c61 : (hl.set 60 (mO (upd J2 34 (Int32.ofInt (-1)))))[61]? = some (rFc R) := (o77 61 (by decide) (by decide) (by decide)).trans hR
      have X0 : rX (hl.set 60 (mO (upd J2 34 (Int32.ofInt (-1))))) (hl.set 60 (mO (upd J2 34 (Int32.ofInt (-1))))) (upd J2 34 (Int32.ofInt (-1))) m.2.2.1 := ⟨MB.1, MB.2.2.1, rfl, fun _ _ _ => rfl⟩
      refine g_iconst (n := 0) rfl ?_
      refine g_istore_n (i := 2) (L1 := [some (.ref 60), some (.int x), some (.int (Int32.ofInt 0)), none, none]) rfl (Nat.le_of_ble_eq_true rfl) rfl ?_
      have eT : twL m s (lsT s.1 s.2.1 true false) (none, 1000) = twL ((upd J2 34 (Int32.ofInt (-1)), m.2) : MF) s (lsT s.1 s.2.1 true false) (none, 1000) := (twL_J b7 _ _).symm
      refine s_two12_go (d := d - 1) (Jb := upd J2 34 (Int32.ofInt (-1))) (m := ((upd J2 34 (Int32.ofInt (-1)), m.2) : MF)) (fin := twL m s (lsT s.1 s.2.1 true false) (none, 1000)) (by omega) MB (fun _ _ => rfl) ⟨(b7 0 (by decide)).trans gM.1, (b7 1 (by decide)).trans gM.2.1, gM.2.2⟩ g (RB_J7 r b7) sI ⟨(b7 0 (by decide)).trans sJ.1, (b7 1 (by decide)).trans sJ.2.1, (b7 6 (by decide)).trans sJ.2.2.1, sJ.2.2.2⟩ (ls_k2 w8 h8) (ls_len w8 h8) ((u_ne (by decide)).trans j31) (by rw [s_set_ne (by decide)]; exact g76) p1 (fun J ow h3 o2 o3 o4 X hJ b => ?_) (lsT s.1 s.2.1 true false) [] (none, 1000) _ _ _ _ _ rfl X0 jE_rfl ⟨u_at, rfl⟩ (by decide) eT.symm
      have hr := X.1
      have h63 := X.2.1
      have s77 := (X.2.2.2 77 (by decide) (by decide)).trans c77
      have s61 := (X.2.2.2 61 (by decide) (by decide)).trans c61
      have tb : (twL m s (lsT s.1 s.2.1 true false) (none, 1000)).2 ≤ 1000 := twL_le (by decide)
      generalize twL m s (lsT s.1 s.2.1 true false) (none, 1000) = fin at b tb ⊢
      obtain ⟨t1, t2⟩ := fin
      have tb : t2 ≤ 1000 := tb
      rcases t1 with _ | ⟨a, b'⟩
      · have b1 : J 34 = -1 := b.1
        refine g_aload_n (i := 0) rfl rfl ?_
        refine g_iconst (n := 1) rfl ?_
        refine g_virt1 rfl (by decide) rfl hr rfl (Nat.le_of_ble_eq_true rfl) (s_back12 (d := d - 1) (by omega) hr h63 s77) (fun r1 hz hq => ?_)
        obtain ⟨rfl, rfl⟩ := hq
        have hrZ : (h3.set 63 (.inl (0, 64, .inl (fun i => if i < 64 then (fun i => if i < 64 then m.2.2.1 i else sp i) i else ow i))))[60]? = some (mO J) := by rw [s_set_ne (by decide)]; exact hr
        have RZ : (h3.set 63 (.inl (0, 64, .inl (fun i => if i < 64 then (fun i => if i < 64 then m.2.2.1 i else sp i) i else ow i))))[61]? = some (rFc R) := by rw [s_set_ne (by decide)]; exact s61
        have back : ∃ ow', (h3.set 63 (.inl (0, 64, .inl (fun i => if i < 64 then (fun i => if i < 64 then m.2.2.1 i else sp i) i else ow i))))[63]? = some (.inl (0, 64, .inl ow')) ∧ ∀ q, q < 64 → ow' q = m.2.2.1 q := ⟨_, s_set_eq h63, fun q hq => (if_pos hq).trans (if_pos hq)⟩
        refine g_aload_n (i := 0) rfl rfl ?_
        refine g_getfield (v := .int (J 34)) rfl hrZ (by decide) rfl ?_
        refine g_iconst (n := (-1)) rfl ?_
        refine g_icmp_ne 152 rfl rfl (fun hc => absurd hc (by exact fun z => z b1)) (fun _ => ?_)
        refine g_aload_n (i := 0) rfl rfl ?_
        refine g_bipush (n := (-5)) rfl ?_
        refine g_virt1 (Qc := fun r h' => r = some (.int (-5)) ∧ h' = (h3.set 63 (.inl (0, 64, .inl (fun i => if i < 64 then (fun i => if i < 64 then m.2.2.1 i else sp i) i else ow i)))).set 61 (rFc (bump R 5))) rfl (by decide) rfl hrZ rfl (Nat.le_of_ble_eq_true rfl) (s_no2 (X := 5) (by omega) hrZ RZ rfl (by decide)) (fun r h9 hq9 => ?_)
        obtain ⟨rfl, rfl⟩ := hq9
        refine g_ireturn (ty := .int) rfl rfl rfl ?_
        obtain ⟨ow', k1, k2⟩ := back
        exact ⟨rfl, ow', by rw [s_set_ne (by decide)]; exact k1, k2⟩
      · have b1 : J 32 = Int32.ofNat a ∧ J 33 = Int32.ofNat b' ∧ J 34 = Int32.ofNat t2 := b
        have n34 : ¬ J 34 = Int32.ofInt (-1) := fun z => by rw [b1.2.2] at z; have z := congrArg Int32.toInt z; rw [ofC_toInt (by omega)] at z; have e1 : (Int32.ofInt (-1)).toInt = -1 := rfl; omega
        refine g_aload_n (i := 0) rfl rfl ?_
        refine g_iconst (n := 1) rfl ?_
        refine g_virt1 rfl (by decide) rfl hr rfl (Nat.le_of_ble_eq_true rfl) (s_back12 (d := d - 1) (by omega) hr h63 s77) (fun r1 hz hq => ?_)
        obtain ⟨rfl, rfl⟩ := hq
        have hrZ : (h3.set 63 (.inl (0, 64, .inl (fun i => if i < 64 then (fun i => if i < 64 then m.2.2.1 i else sp i) i else ow i))))[60]? = some (mO J) := by rw [s_set_ne (by decide)]; exact hr
        have RZ : (h3.set 63 (.inl (0, 64, .inl (fun i => if i < 64 then (fun i => if i < 64 then m.2.2.1 i else sp i) i else ow i))))[61]? = some (rFc R) := by rw [s_set_ne (by decide)]; exact s61
        have back : ∃ ow', (h3.set 63 (.inl (0, 64, .inl (fun i => if i < 64 then (fun i => if i < 64 then m.2.2.1 i else sp i) i else ow i))))[63]? = some (.inl (0, 64, .inl ow')) ∧ ∀ q, q < 64 → ow' q = m.2.2.1 q := ⟨_, s_set_eq h63, fun q hq => (if_pos hq).trans (if_pos hq)⟩
        refine g_aload_n (i := 0) rfl rfl ?_
        refine g_getfield (v := .int (J 34)) rfl hrZ (by decide) rfl ?_
        refine g_iconst (n := (-1)) rfl ?_
        refine g_icmp_ne 152 rfl rfl (fun _ => ?_) (fun hc => absurd hc (by exact n34))
        refine g_iload_n (i := 1) rfl rfl ?_
        have k_2 : (0 : Int32).toInt = 0 := rfl
        refine g_if_ne 163 rfl rfl (fun c_1 => ?_) (fun c_1 => ?_)
        · skip
          rw [i_eq, k_2] at c_1
          refine g_iload_n (i := 1) rfl rfl ?_
          refine g_iconst (n := 1) rfl ?_
          have k_4 : (Int32.ofInt 1).toInt = 1 := rfl
          refine g_icmp_ne 175 rfl rfl (fun c_3 => ?_) (fun c_3 => ?_)
          · skip
            rw [i_eq, k_4] at c_3
            refine g_aload_n (i := 0) rfl rfl ?_
            refine g_getfield (v := .int (J 34)) rfl hrZ (by decide) rfl ?_
            refine g_ireturn (ty := .int) rfl rfl rfl ?_
            refine ⟨?_, back⟩
            show _ = some (Value.int (if x.toInt = 0 then Int32.ofNat a else if x.toInt = 1 then Int32.ofNat b' else Int32.ofNat t2))
            rw [if_neg (show ¬ x.toInt = 0 by omega), if_neg (show ¬ x.toInt = 1 by omega), b1.2.2]
          · skip
            rw [i_eq, k_4] at c_3
            refine g_aload_n (i := 0) rfl rfl ?_
            refine g_getfield (v := .int (J 33)) rfl hrZ (by decide) rfl ?_
            refine g_goto 179 rfl rfl ?_
            refine g_ireturn (ty := .int) rfl rfl rfl ?_
            refine ⟨?_, back⟩
            show _ = some (Value.int (if x.toInt = 0 then Int32.ofNat a else if x.toInt = 1 then Int32.ofNat b' else Int32.ofNat t2))
            rw [if_neg (show ¬ x.toInt = 0 by omega), if_pos (show x.toInt = 1 by omega), b1.2.1]
        · skip
          rw [i_eq, k_2] at c_1
          refine g_aload_n (i := 0) rfl rfl ?_
          refine g_getfield (v := .int (J 32)) rfl hrZ (by decide) rfl ?_
          refine g_goto 179 rfl rfl ?_
          refine g_ireturn (ty := .int) rfl rfl rfl ?_
          refine ⟨?_, back⟩
          show _ = some (Value.int (if x.toInt = 0 then Int32.ofNat a else if x.toInt = 1 then Int32.ofNat b' else Int32.ofNat t2))
          rw [if_pos (show x.toInt = 0 by omega), b1.1]
    · skip
      rw [i_le, k_4] at c_3
      exfalso; omega
