/-! ===== the reference's field, exactly ===== -/
/-- ints, soil, owner, share, fond, value -/
def MF : Type := (Nat → Int32) × (Nat → Int32) × (Nat → Int32) × (Nat → Int32) × (Nat → Int32) × (Nat → Int32)
def MC (h : sHp) (m : MF) : Prop := h[60]? = some (mO m.1) ∧ h[62]? = some (.inl (0, 64, .inl m.2.1)) ∧ h[63]? = some (.inl (0, 64, .inl m.2.2.1)) ∧ h[64]? = some (.inl (0, 5, .inl m.2.2.2.1)) ∧ h[65]? = some (.inl (0, 5, .inl m.2.2.2.2.1)) ∧ h[66]? = some (.inl (0, 30, .inl m.2.2.2.2.2))
def mE (h h' : sHp) : Prop := h'.length = h.length ∧ ∀ q, q ≠ 60 → (q < 62 ∨ 66 < q) → h'[q]? = h[q]?
theorem mE_rfl {h : sHp} : mE h h := ⟨rfl, fun _ _ _ => rfl⟩
theorem mE_tr {h h1 h2 : sHp} (a : mE h h1) (b : mE h1 h2) : mE h h2 := ⟨b.1.trans a.1, fun q x y => (b.2 q x y).trans (a.2 q x y)⟩
theorem mE_set {h h1 : sHp} {q : Nat} {x : va_E} (a : mE h h1) (hq : q = 60 ∨ (62 ≤ q ∧ q ≤ 66)) : mE h (h1.set q x) := ⟨by rw [List.length_set]; exact a.1, fun q' y z => by rw [s_set_ne (by omega)]; exact a.2 q' y z⟩
theorem MC_0 {h : sHp} {m : MF} {f : Nat → Int32} (M : MC h m) : MC (h.set 60 (mO f)) (f, m.2.1, m.2.2.1, m.2.2.2.1, m.2.2.2.2.1, m.2.2.2.2.2) := by
  obtain ⟨a0, a1, a2, a3, a4, a5⟩ := M
  exact ⟨s_set_eq a0, by rw [s_set_ne (by decide)]; exact a1, by rw [s_set_ne (by decide)]; exact a2, by rw [s_set_ne (by decide)]; exact a3, by rw [s_set_ne (by decide)]; exact a4, by rw [s_set_ne (by decide)]; exact a5⟩
theorem MC_1 {h : sHp} {m : MF} {f : Nat → Int32} (M : MC h m) : MC (h.set 62 (.inl (0, 64, .inl f))) (m.1, f, m.2.2.1, m.2.2.2.1, m.2.2.2.2.1, m.2.2.2.2.2) := by
  obtain ⟨a0, a1, a2, a3, a4, a5⟩ := M
  exact ⟨by rw [s_set_ne (by decide)]; exact a0, s_set_eq a1, by rw [s_set_ne (by decide)]; exact a2, by rw [s_set_ne (by decide)]; exact a3, by rw [s_set_ne (by decide)]; exact a4, by rw [s_set_ne (by decide)]; exact a5⟩
theorem MC_2 {h : sHp} {m : MF} {f : Nat → Int32} (M : MC h m) : MC (h.set 63 (.inl (0, 64, .inl f))) (m.1, m.2.1, f, m.2.2.2.1, m.2.2.2.2.1, m.2.2.2.2.2) := by
  obtain ⟨a0, a1, a2, a3, a4, a5⟩ := M
  exact ⟨by rw [s_set_ne (by decide)]; exact a0, by rw [s_set_ne (by decide)]; exact a1, s_set_eq a2, by rw [s_set_ne (by decide)]; exact a3, by rw [s_set_ne (by decide)]; exact a4, by rw [s_set_ne (by decide)]; exact a5⟩
theorem MC_3 {h : sHp} {m : MF} {f : Nat → Int32} (M : MC h m) : MC (h.set 64 (.inl (0, 5, .inl f))) (m.1, m.2.1, m.2.2.1, f, m.2.2.2.2.1, m.2.2.2.2.2) := by
  obtain ⟨a0, a1, a2, a3, a4, a5⟩ := M
  exact ⟨by rw [s_set_ne (by decide)]; exact a0, by rw [s_set_ne (by decide)]; exact a1, by rw [s_set_ne (by decide)]; exact a2, s_set_eq a3, by rw [s_set_ne (by decide)]; exact a4, by rw [s_set_ne (by decide)]; exact a5⟩
theorem MC_4 {h : sHp} {m : MF} {f : Nat → Int32} (M : MC h m) : MC (h.set 65 (.inl (0, 5, .inl f))) (m.1, m.2.1, m.2.2.1, m.2.2.2.1, f, m.2.2.2.2.2) := by
  obtain ⟨a0, a1, a2, a3, a4, a5⟩ := M
  exact ⟨by rw [s_set_ne (by decide)]; exact a0, by rw [s_set_ne (by decide)]; exact a1, by rw [s_set_ne (by decide)]; exact a2, by rw [s_set_ne (by decide)]; exact a3, s_set_eq a4, by rw [s_set_ne (by decide)]; exact a5⟩
theorem MC_5 {h : sHp} {m : MF} {f : Nat → Int32} (M : MC h m) : MC (h.set 66 (.inl (0, 30, .inl f))) (m.1, m.2.1, m.2.2.1, m.2.2.2.1, m.2.2.2.2.1, f) := by
  obtain ⟨a0, a1, a2, a3, a4, a5⟩ := M
  exact ⟨by rw [s_set_ne (by decide)]; exact a0, by rw [s_set_ne (by decide)]; exact a1, by rw [s_set_ne (by decide)]; exact a2, by rw [s_set_ne (by decide)]; exact a3, by rw [s_set_ne (by decide)]; exact a4, s_set_eq a5⟩
def fillF (a : Int32) (f : Nat → Int32) (k : Nat) : Nat → Int32 := fun i => if i < k then a else f i
theorem fillF_0 (a : Int32) (f : Nat → Int32) : fillF a f 0 = f := funext fun i => if_neg (Nat.not_lt_zero i)
theorem fillF_s (a : Int32) (f : Nat → Int32) (k : Nat) : upd (fillF a f k) k a = fillF a f (k + 1) := funext fun i => by
  unfold upd fillF
  by_cases h : i = k
  · rw [if_pos h, if_pos (show i < k + 1 by omega)]
  · rw [if_neg h]
    by_cases h2 : i < k
    · rw [if_pos h2, if_pos (show i < k + 1 by omega)]
    · rw [if_neg h2, if_neg (show ¬ i < k + 1 by omega)]
def szJ (x y : Int32) (J : Nat → Int32) : Nat → Int32 := upd (upd (upd (upd J 0 x) 1 y) 3 (Int32.ofInt (-1))) 4 (Int32.ofInt (-1))
def mfSize (x y : Int32) (m : MF) : MF := (szJ x y m.1, fillF (Int32.ofInt 0) m.2.1 64, fillF (Int32.ofInt (-1)) m.2.2.1 64, m.2.2.2)
theorem s_sizes_go {d : Nat} {h0 : sHp} {m0 : MF} {x y : Int32} {J : Nat → Int32} : ∀ (f k : Nat) (h : sHp), f + k = 64 → MC h (J, fillF (Int32.ofInt 0) m0.2.1 k, fillF (Int32.ofInt (-1)) m0.2.2.1 k, m0.2.2.2) → mE h0 h → sGo none 190 d 22 [some (.ref 60), some (.int x), some (.int y), some (.int (Int32.ofNat k))] [] h (fun r h' => r = none ∧ MC h' (J, fillF (Int32.ofInt 0) m0.2.1 64, fillF (Int32.ofInt (-1)) m0.2.2.1 64, m0.2.2.2) ∧ mE h0 h') := by
  have e64 : (Int8.ofInt 64).toInt32.toInt = 64 := rfl
  intro f
  induction f with
  | zero =>
    intro k h hk M E
    have ek := ofN_toInt (n := k) (by omega)
    refine g_iload_n (i := 3) rfl rfl ?_
    refine g_bipush (n := 64) rfl ?_
    refine g_icmp_ge 48 rfl rfl (fun _ => ?_) (fun hc => absurd hc (by rw [i_le, e64, ek]; omega))
    refine g_return rfl rfl ?_
    rw [show k = 64 by omega] at M
    exact ⟨rfl, M, E⟩
  | succ f ih =>
    intro k h hk M E
    have ek := ofN_toInt (n := k) (by omega)
    refine g_iload_n (i := 3) rfl rfl ?_
    refine g_bipush (n := 64) rfl ?_
    refine g_icmp_ge 48 rfl rfl (fun hc => absurd hc (by rw [i_le, e64, ek]; omega)) (fun _ => ?_)
    refine g_aload_n (i := 0) rfl rfl ?_
    refine g_getfield (v := .ref 62) rfl M.1 (by decide) rfl ?_
    refine g_iload_n (i := 3) rfl rfl ?_
    refine g_iconst (n := 0) rfl ?_
    refine g_iastore (h1 := h.set 62 (.inl (0, 64, .inl (fillF (Int32.ofInt 0) m0.2.1 (k + 1))))) rfl M.2.1 (i_in (by omega) (by omega)) (by rw [i_nat ek]; exact congrArg (fun e => h.set 62 (.inl (0, 64, .inl e))) (fillF_s _ _ k)) ?_
    have M1 := MC_1 (f := fillF (Int32.ofInt 0) m0.2.1 (k + 1)) M
    have E1 : mE h0 (h.set 62 (.inl (0, 64, .inl (fillF (Int32.ofInt 0) m0.2.1 (k + 1))))) := mE_set E (by omega)
    generalize h.set 62 (.inl (0, 64, .inl (fillF (Int32.ofInt 0) m0.2.1 (k + 1)))) = h1 at M1 E1
    refine g_aload_n (i := 0) rfl rfl ?_
    refine g_getfield (v := .ref 63) rfl M1.1 (by decide) rfl ?_
    refine g_iload_n (i := 3) rfl rfl ?_
    refine g_iconst (n := (-1)) rfl ?_
    refine g_iastore (h1 := h1.set 63 (.inl (0, 64, .inl (fillF (Int32.ofInt (-1)) m0.2.2.1 (k + 1))))) rfl M1.2.2.1 (i_in (by omega) (by omega)) (by rw [i_nat ek]; exact congrArg (fun e => h1.set 63 (.inl (0, 64, .inl e))) (fillF_s _ _ k)) ?_
    refine g_iinc (i := 3) (L1 := [some (.ref 60), some (.int x), some (.int y), some (.int ((Int32.ofNat k) + Int32.ofInt 1))]) rfl rfl rfl ?_
    rw [ofN_add (by omega)]
    refine g_goto 22 rfl rfl ?_
    exact ih (k + 1) _ (by omega) (MC_2 M1) (mE_set E1 (by omega))
theorem s_sizes {d : Nat} {h : sHp} {m : MF} {x y : Int32} (M : MC h m) : sDo (d + 1) 190 [.ref 60, .int x, .int y] h (fun r h' => r = none ∧ MC h' (mfSize x y m) ∧ mE h h') := by
  obtain ⟨J, so, ow, sh, fo, va⟩ := m
  have a0 : h[60]? = some (mO J) := M.1
  have at_ : ∀ J, (h.set 60 (mO J))[60]? = some (mO J) := fun _ => s_set_eq a0
  refine sDo_of (d := d) (nL := 4) (L := [some (.ref 60), some (.int x), some (.int y), none]) rfl rfl ?_
  refine g_aload_n (i := 0) rfl rfl ?_
  refine g_iload_n (i := 1) rfl rfl ?_
  refine g_putfield (h1 := h.set 60 (mO (upd J 0 x))) rfl a0 (by decide) (Nat.le_of_ble_eq_true rfl) rfl rfl ?_
  refine g_aload_n (i := 0) rfl rfl ?_
  refine g_iload_n (i := 2) rfl rfl ?_
  refine g_putfield (h1 := h.set 60 (mO (upd (upd J 0 x) 1 y))) rfl (at_ _) (by decide) (Nat.le_of_ble_eq_true rfl) rfl (List.set_set ..) ?_
  refine g_aload_n (i := 0) rfl rfl ?_
  refine g_iconst (n := (-1)) rfl ?_
  refine g_putfield (h1 := h.set 60 (mO (upd (upd (upd J 0 x) 1 y) 3 (Int32.ofInt (-1))))) rfl (at_ _) (by decide) (Nat.le_of_ble_eq_true rfl) rfl (List.set_set ..) ?_
  refine g_aload_n (i := 0) rfl rfl ?_
  refine g_iconst (n := (-1)) rfl ?_
  refine g_putfield (h1 := h.set 60 (mO (upd (upd (upd (upd J 0 x) 1 y) 3 (Int32.ofInt (-1))) 4 (Int32.ofInt (-1))))) rfl (at_ _) (by decide) (Nat.le_of_ble_eq_true rfl) rfl (List.set_set ..) ?_
  refine g_iconst (n := 0) rfl ?_
  refine g_istore_n (i := 3) (L1 := [some (.ref 60), some (.int x), some (.int y), some (.int (Int32.ofInt 0))]) rfl (Nat.le_of_ble_eq_true rfl) rfl ?_
  exact s_sizes_go (m0 := (J, so, ow, sh, fo, va)) (J := szJ x y J) 64 0 _ rfl (by rw [fillF_0, fillF_0]; exact MC_0 M) (mE_set mE_rfl (by omega))
def tenV (f : Nat → Int32) (H k : Nat) : Nat → Int32 := fun i => if 6 * H ≤ i ∧ i < 6 * H + k then (Int8.ofInt 10).toInt32 else f i
theorem tenV_0 (f : Nat → Int32) (H : Nat) : tenV f H 0 = f := funext fun i => if_neg (show ¬ (6 * H ≤ i ∧ i < 6 * H + 0) by omega)
theorem tenV_s (f : Nat → Int32) (H k : Nat) : upd (tenV f H k) (6 * H + k) (Int8.ofInt 10).toInt32 = tenV f H (k + 1) := funext fun i => by
  unfold upd tenV
  by_cases h : i = 6 * H + k
  · rw [if_pos h, if_pos (show 6 * H ≤ i ∧ i < 6 * H + (k + 1) by omega)]
  · rw [if_neg h]
    by_cases h2 : 6 * H ≤ i ∧ i < 6 * H + k
    · rw [if_pos h2, if_pos (show 6 * H ≤ i ∧ i < 6 * H + (k + 1) by omega)]
    · rw [if_neg h2, if_neg (show ¬ (6 * H ≤ i ∧ i < 6 * H + (k + 1)) by omega)]
def mfHeir (H : Nat) (p : Int32) (m : MF) : MF := (upd m.1 6 (Int32.ofNat (H + 1)), m.2.1, m.2.2.1, upd m.2.2.2.1 H p, upd m.2.2.2.2.1 H (Int32.ofInt 0), tenV m.2.2.2.2.2 H 6)
theorem s_comesE_go {d : Nat} {h0 : sHp} {H : Nat} {p : Int32} {J so ow sh fo va : Nat → Int32} {Q : Option Value → sHp → Prop} (hJ : J 6 = Int32.ofNat H) (hH : H < 5) (hQ : ∀ (h : sHp) (x : Int32), MC h (J, so, ow, sh, fo, tenV va H 6) → mE h0 h → sGo none 191 d 50 [some (.ref 60), some (.int p), some (.int x)] [] h Q) : ∀ (f k : Nat) (h : sHp), f + k = 6 → MC h (J, so, ow, sh, fo, tenV va H k) → mE h0 h → sGo none 191 d 22 [some (.ref 60), some (.int p), some (.int (Int32.ofNat k))] [] h Q := by
  have e6 : (Int8.ofInt 6).toInt32.toInt = 6 := rfl
  have eH := ofN_toInt (n := H) (by omega)
  intro f
  induction f with
  | zero =>
    intro k h hk M E
    have ek := ofN_toInt (n := k) (by omega)
    refine g_iload_n (i := 2) rfl rfl ?_
    refine g_bipush (n := 6) rfl ?_
    refine g_icmp_ge 50 rfl rfl (fun _ => ?_) (fun hc => absurd hc (by rw [i_le, e6, ek]; omega))
    rw [show k = 6 by omega] at M
    exact hQ h _ M E
  | succ f ih =>
    intro k h hk M E
    have ek := ofN_toInt (n := k) (by omega)
    have m1 : ((Int8.ofInt 6).toInt32 * J 6).toInt = 6 * H := by rw [hJ, i_mul (by rw [e6, eH]; omega) (by rw [e6, eH]; omega), e6, eH]
    have m2 : ((Int8.ofInt 6).toInt32 * J 6 + Int32.ofNat k).toInt = ((6 * H + k : Nat) : Int) := by rw [i_add (by rw [m1, ek]; omega) (by rw [m1, ek]; omega), m1, ek]; omega
    refine g_iload_n (i := 2) rfl rfl ?_
    refine g_bipush (n := 6) rfl ?_
    refine g_icmp_ge 50 rfl rfl (fun hc => absurd hc (by rw [i_le, e6, ek]; omega)) (fun _ => ?_)
    refine g_aload_n (i := 0) rfl rfl ?_
    refine g_getfield (v := .ref 66) rfl M.1 (by decide) rfl ?_
    refine g_bipush (n := 6) rfl ?_
    refine g_aload_n (i := 0) rfl rfl ?_
    refine g_getfield (v := .int (J 6)) rfl M.1 (by decide) rfl ?_
    refine g_imul rfl ?_
    refine g_iload_n (i := 2) rfl rfl ?_
    refine g_iadd rfl ?_
    refine g_bipush (n := 10) rfl ?_
    refine g_iastore (h1 := h.set 66 (.inl (0, 30, .inl (tenV va H (k + 1))))) rfl M.2.2.2.2.2 (i_in (by omega) (by omega)) (by rw [i_nat m2]; exact congrArg (fun e => h.set 66 (.inl (0, 30, .inl e))) (tenV_s va H k)) ?_
    refine g_iinc (i := 2) (L1 := [some (.ref 60), some (.int p), some (.int ((Int32.ofNat k) + Int32.ofInt 1))]) rfl rfl rfl ?_
    rw [ofN_add (by omega)]
    refine g_goto 22 rfl rfl ?_
    exact ih (k + 1) _ (by omega) (MC_5 M) (mE_set E (by omega))
theorem s_comesE {d : Nat} {h : sHp} {m : MF} {H : Nat} {p : Int32} (M : MC h m) (hJ : m.1 6 = Int32.ofNat H) (hH : H < 5) : sDo (d + 1) 191 [.ref 60, .int p] h (fun r h' => r = some (.int (Int32.ofNat H)) ∧ MC h' (mfHeir H p m) ∧ mE h h') := by
  obtain ⟨J, so, ow, sh, fo, va⟩ := m
  have hJ : J 6 = Int32.ofNat H := hJ
  have eH := ofN_toInt (n := H) (by omega)
  have e6 : (J 6).toInt = H := by rw [hJ, eH]
  refine sDo_of (d := d) (nL := 3) (L := [some (.ref 60), some (.int p), none]) rfl rfl ?_
  refine g_aload_n (i := 0) rfl rfl ?_
  refine g_getfield (v := .ref 64) rfl M.1 (by decide) rfl ?_
  refine g_aload_n (i := 0) rfl rfl ?_
  refine g_getfield (v := .int (J 6)) rfl M.1 (by decide) rfl ?_
  refine g_iload_n (i := 1) rfl rfl ?_
  refine g_iastore (h1 := h.set 64 (.inl (0, 5, .inl (upd sh H p)))) rfl M.2.2.2.1 (i_in (by omega) (by omega)) (by rw [i_nat e6]) ?_
  have M1 := MC_3 (f := upd sh H p) M
  have E1 : mE h (h.set 64 (.inl (0, 5, .inl (upd sh H p)))) := mE_set mE_rfl (by omega)
  generalize h.set 64 (.inl (0, 5, .inl (upd sh H p))) = h1 at M1 E1
  refine g_aload_n (i := 0) rfl rfl ?_
  refine g_getfield (v := .ref 65) rfl M1.1 (by decide) rfl ?_
  refine g_aload_n (i := 0) rfl rfl ?_
  refine g_getfield (v := .int (J 6)) rfl M1.1 (by decide) rfl ?_
  refine g_iconst (n := 0) rfl ?_
  refine g_iastore (h1 := h1.set 65 (.inl (0, 5, .inl (upd fo H (Int32.ofInt 0))))) rfl M1.2.2.2.2.1 (i_in (by omega) (by omega)) (by rw [i_nat e6]) ?_
  have M2 := MC_4 (f := upd fo H (Int32.ofInt 0)) M1
  have E2 : mE h (h1.set 65 (.inl (0, 5, .inl (upd fo H (Int32.ofInt 0))))) := mE_set E1 (by omega)
  generalize h1.set 65 (.inl (0, 5, .inl (upd fo H (Int32.ofInt 0)))) = h2 at M2 E2
  refine g_iconst (n := 0) rfl ?_
  refine g_istore_n (i := 2) (L1 := [some (.ref 60), some (.int p), some (.int (Int32.ofInt 0))]) rfl (Nat.le_of_ble_eq_true rfl) rfl ?_
  refine s_comesE_go (J := J) (so := so) (ow := ow) (va := va) hJ hH (fun h3 x M3 E3 => ?_) 6 0 h2 rfl (by rw [tenV_0]; exact M2) E2
  refine g_aload_n (i := 0) rfl rfl ?_
  refine g_dup rfl rfl ?_
  refine g_getfield (v := .int (J 6)) rfl M3.1 (by decide) rfl ?_
  refine g_dup_x1 rfl rfl rfl ?_
  refine g_iconst (n := 1) rfl ?_
  refine g_iadd rfl ?_
  rw [hJ, ofN_add (by omega)]
  refine g_putfield (h1 := h3.set 60 (mO (upd J 6 (Int32.ofNat (H + 1))))) rfl M3.1 (by decide) (Nat.le_of_ble_eq_true rfl) rfl rfl ?_
  refine g_ireturn (ty := .int) rfl rfl rfl ?_
  exact ⟨rfl, MC_0 M3, mE_set E3 (by omega)⟩
