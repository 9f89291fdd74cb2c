section
/-! ===== the reference's field, exactly ===== -/
/-- ints, soil, owner, share, fond, value -/
def MF : Type := (Nat → Int32) × (Nat → Int32) × (Nat → Int32) × (Nat → Int32) × (Nat → Int32) × (Nat → Int32)
def MC (h : sHp) (m : MF) : Prop := h[60]? = some (mO m.1) ∧ h[62]? = some (.inl (0, 64, .inl m.2.1)) ∧ h[63]? = some (.inl (0, 64, .inl m.2.2.1)) ∧ h[64]? = some (.inl (0, 5, .inl m.2.2.2.1)) ∧ h[65]? = some (.inl (0, 5, .inl m.2.2.2.2.1)) ∧ h[66]? = some (.inl (0, 30, .inl m.2.2.2.2.2))
def mE (h h' : sHp) : Prop := h'.length = h.length ∧ ∀ q, q ≠ 60 → (q < 62 ∨ 66 < q) → h'[q]? = h[q]?
theorem mE_rfl {h : sHp} : mE h h := ⟨rfl, fun _ _ _ => rfl⟩
theorem mE_tr {h h1 h2 : sHp} (a : mE h h1) (b : mE h1 h2) : mE h h2 := ⟨b.1.trans a.1, fun q x y => (b.2 q x y).trans (a.2 q x y)⟩
theorem mE_set {h h1 : sHp} {q : Nat} {x : va_E} (a : mE h h1) (hq : q = 60 ∨ (62 ≤ q ∧ q ≤ 66)) : mE h (h1.set q x) := ⟨by rw [List.length_set]; exact a.1, fun q' y z => by rw [s_set_ne (by omega)]; exact a.2 q' y z⟩
theorem MC_0 {h : sHp} {m : MF} {f : Nat → Int32} (M : MC h m) : MC (h.set 60 (mO f)) (f, m.2.1, m.2.2.1, m.2.2.2.1, m.2.2.2.2.1, m.2.2.2.2.2) := by
  obtain ⟨a0, a1, a2, a3, a4, a5⟩ := M
  exact ⟨s_set_eq a0, by rw [s_set_ne (by decide)]; exact a1, by rw [s_set_ne (by decide)]; exact a2, by rw [s_set_ne (by decide)]; exact a3, by rw [s_set_ne (by decide)]; exact a4, by rw [s_set_ne (by decide)]; exact a5⟩
theorem MC_1 {h : sHp} {m : MF} {f : Nat → Int32} (M : MC h m) : MC (h.set 62 (.inl (0, 64, .inl f))) (m.1, f, m.2.2.1, m.2.2.2.1, m.2.2.2.2.1, m.2.2.2.2.2) := by
  obtain ⟨a0, a1, a2, a3, a4, a5⟩ := M
  exact ⟨by rw [s_set_ne (by decide)]; exact a0, s_set_eq a1, by rw [s_set_ne (by decide)]; exact a2, by rw [s_set_ne (by decide)]; exact a3, by rw [s_set_ne (by decide)]; exact a4, by rw [s_set_ne (by decide)]; exact a5⟩
theorem MC_2 {h : sHp} {m : MF} {f : Nat → Int32} (M : MC h m) : MC (h.set 63 (.inl (0, 64, .inl f))) (m.1, m.2.1, f, m.2.2.2.1, m.2.2.2.2.1, m.2.2.2.2.2) := by
  obtain ⟨a0, a1, a2, a3, a4, a5⟩ := M
  exact ⟨by rw [s_set_ne (by decide)]; exact a0, by rw [s_set_ne (by decide)]; exact a1, s_set_eq a2, by rw [s_set_ne (by decide)]; exact a3, by rw [s_set_ne (by decide)]; exact a4, by rw [s_set_ne (by decide)]; exact a5⟩
theorem MC_3 {h : sHp} {m : MF} {f : Nat → Int32} (M : MC h m) : MC (h.set 64 (.inl (0, 5, .inl f))) (m.1, m.2.1, m.2.2.1, f, m.2.2.2.2.1, m.2.2.2.2.2) := by
  obtain ⟨a0, a1, a2, a3, a4, a5⟩ := M
  exact ⟨by rw [s_set_ne (by decide)]; exact a0, by rw [s_set_ne (by decide)]; exact a1, by rw [s_set_ne (by decide)]; exact a2, s_set_eq a3, by rw [s_set_ne (by decide)]; exact a4, by rw [s_set_ne (by decide)]; exact a5⟩
theorem MC_4 {h : sHp} {m : MF} {f : Nat → Int32} (M : MC h m) : MC (h.set 65 (.inl (0, 5, .inl f))) (m.1, m.2.1, m.2.2.1, m.2.2.2.1, f, m.2.2.2.2.2) := by
  obtain ⟨a0, a1, a2, a3, a4, a5⟩ := M
  exact ⟨by rw [s_set_ne (by decide)]; exact a0, by rw [s_set_ne (by decide)]; exact a1, by rw [s_set_ne (by decide)]; exact a2, by rw [s_set_ne (by decide)]; exact a3, s_set_eq a4, by rw [s_set_ne (by decide)]; exact a5⟩
theorem MC_5 {h : sHp} {m : MF} {f : Nat → Int32} (M : MC h m) : MC (h.set 66 (.inl (0, 30, .inl f))) (m.1, m.2.1, m.2.2.1, m.2.2.2.1, m.2.2.2.2.1, f) := by
  obtain ⟨a0, a1, a2, a3, a4, a5⟩ := M
  exact ⟨by rw [s_set_ne (by decide)]; exact a0, by rw [s_set_ne (by decide)]; exact a1, by rw [s_set_ne (by decide)]; exact a2, by rw [s_set_ne (by decide)]; exact a3, by rw [s_set_ne (by decide)]; exact a4, s_set_eq a5⟩
def fillF (a : Int32) (f : Nat → Int32) (k : Nat) : Nat → Int32 := fun i => if i < k then a else f i
theorem fillF_0 (a : Int32) (f : Nat → Int32) : fillF a f 0 = f := funext fun i => if_neg (Nat.not_lt_zero i)
theorem fillF_s (a : Int32) (f : Nat → Int32) (k : Nat) : upd (fillF a f k) k a = fillF a f (k + 1) := funext fun i => by
  unfold upd fillF
  by_cases h : i = k
  · rw [if_pos h, if_pos (show i < k + 1 by omega)]
  · rw [if_neg h]
    by_cases h2 : i < k
    · rw [if_pos h2, if_pos (show i < k + 1 by omega)]
    · rw [if_neg h2, if_neg (show ¬ i < k + 1 by omega)]
def szJ (x y : Int32) (J : Nat → Int32) : Nat → Int32 := upd (upd (upd (upd J 0 x) 1 y) 3 (Int32.ofInt (-1))) 4 (Int32.ofInt (-1))
def mfSize (x y : Int32) (m : MF) : MF := (szJ x y m.1, fillF (Int32.ofInt 0) m.2.1 64, fillF (Int32.ofInt (-1)) m.2.2.1 64, m.2.2.2)
theorem s_sizes_go {d : Nat} {h0 : sHp} {m0 : MF} {x y : Int32} {J : Nat → Int32} : ∀ (f k : Nat) (h : sHp), f + k = 64 → MC h (J, fillF (Int32.ofInt 0) m0.2.1 k, fillF (Int32.ofInt (-1)) m0.2.2.1 k, m0.2.2.2) → mE h0 h → sGo none 190 d 22 [some (.ref 60), some (.int x), some (.int y), some (.int (Int32.ofNat k))] [] h (fun r h' => r = none ∧ MC h' (J, fillF (Int32.ofInt 0) m0.2.1 64, fillF (Int32.ofInt (-1)) m0.2.2.1 64, m0.2.2.2) ∧ mE h0 h') := by
  have e64 : (Int8.ofInt 64).toInt32.toInt = 64 := rfl
  intro f
  induction f with
  | zero =>
    intro k h hk M E
    have ek := ofN_toInt (n := k) (by omega)
    refine g_iload_n (i := 3) rfl rfl ?_
    refine g_bipush (n := 64) rfl ?_
    refine g_icmp_ge 48 rfl rfl (fun _ => ?_) (fun hc => absurd hc (by rw [i_le, e64, ek]; omega))
    refine g_return rfl rfl ?_
    rw [show k = 64 by omega] at M
    exact ⟨rfl, M, E⟩
  | succ f ih =>
    intro k h hk M E
    have ek := ofN_toInt (n := k) (by omega)
    refine g_iload_n (i := 3) rfl rfl ?_
    refine g_bipush (n := 64) rfl ?_
    refine g_icmp_ge 48 rfl rfl (fun hc => absurd hc (by rw [i_le, e64, ek]; omega)) (fun _ => ?_)
    refine g_aload_n (i := 0) rfl rfl ?_
    refine g_getfield (v := .ref 62) rfl M.1 (by decide) rfl ?_
    refine g_iload_n (i := 3) rfl rfl ?_
    refine g_iconst (n := 0) rfl ?_
    refine g_iastore (h1 := h.set 62 (.inl (0, 64, .inl (fillF (Int32.ofInt 0) m0.2.1 (k + 1))))) rfl M.2.1 (i_in (by omega) (by omega)) (by rw [i_nat ek]; exact congrArg (fun e => h.set 62 (.inl (0, 64, .inl e))) (fillF_s _ _ k)) ?_
    have M1 := MC_1 (f := fillF (Int32.ofInt 0) m0.2.1 (k + 1)) M
    have E1 : mE h0 (h.set 62 (.inl (0, 64, .inl (fillF (Int32.ofInt 0) m0.2.1 (k + 1))))) := mE_set E (by omega)
    generalize h.set 62 (.inl (0, 64, .inl (fillF (Int32.ofInt 0) m0.2.1 (k + 1)))) = h1 at M1 E1
    refine g_aload_n (i := 0) rfl rfl ?_
    refine g_getfield (v := .ref 63) rfl M1.1 (by decide) rfl ?_
    refine g_iload_n (i := 3) rfl rfl ?_
    refine g_iconst (n := (-1)) rfl ?_
    refine g_iastore (h1 := h1.set 63 (.inl (0, 64, .inl (fillF (Int32.ofInt (-1)) m0.2.2.1 (k + 1))))) rfl M1.2.2.1 (i_in (by omega) (by omega)) (by rw [i_nat ek]; exact congrArg (fun e => h1.set 63 (.inl (0, 64, .inl e))) (fillF_s _ _ k)) ?_
    refine g_iinc (i := 3) (L1 := [some (.ref 60), some (.int x), some (.int y), some (.int ((Int32.ofNat k) + Int32.ofInt 1))]) rfl rfl rfl ?_
    rw [ofN_add (by omega)]
    refine g_goto 22 rfl rfl ?_
    exact ih (k + 1) _ (by omega) (MC_2 M1) (mE_set E1 (by omega))
theorem s_sizes {d : Nat} {h : sHp} {m : MF} {x y : Int32} (M : MC h m) : sDo (d + 1) 190 [.ref 60, .int x, .int y] h (fun r h' => r = none ∧ MC h' (mfSize x y m) ∧ mE h h') := by
  obtain ⟨J, so, ow, sh, fo, va⟩ := m
  have a0 : h[60]? = some (mO J) := M.1
  have at_ : ∀ J, (h.set 60 (mO J))[60]? = some (mO J) := fun _ => s_set_eq a0
  refine sDo_of (d := d) (nL := 4) (L := [some (.ref 60), some (.int x), some (.int y), none]) rfl rfl ?_
  refine g_aload_n (i := 0) rfl rfl ?_
  refine g_iload_n (i := 1) rfl rfl ?_
  refine g_putfield (h1 := h.set 60 (mO (upd J 0 x))) rfl a0 (by decide) (Nat.le_of_ble_eq_true rfl) rfl rfl ?_
  refine g_aload_n (i := 0) rfl rfl ?_
  refine g_iload_n (i := 2) rfl rfl ?_
  refine g_putfield (h1 := h.set 60 (mO (upd (upd J 0 x) 1 y))) rfl (at_ _) (by decide) (Nat.le_of_ble_eq_true rfl) rfl (List.set_set ..) ?_
  refine g_aload_n (i := 0) rfl rfl ?_
  refine g_iconst (n := (-1)) rfl ?_
  refine g_putfield (h1 := h.set 60 (mO (upd (upd (upd J 0 x) 1 y) 3 (Int32.ofInt (-1))))) rfl (at_ _) (by decide) (Nat.le_of_ble_eq_true rfl) rfl (List.set_set ..) ?_
  refine g_aload_n (i := 0) rfl rfl ?_
  refine g_iconst (n := (-1)) rfl ?_
  refine g_putfield (h1 := h.set 60 (mO (upd (upd (upd (upd J 0 x) 1 y) 3 (Int32.ofInt (-1))) 4 (Int32.ofInt (-1))))) rfl (at_ _) (by decide) (Nat.le_of_ble_eq_true rfl) rfl (List.set_set ..) ?_
  refine g_iconst (n := 0) rfl ?_
  refine g_istore_n (i := 3) (L1 := [some (.ref 60), some (.int x), some (.int y), some (.int (Int32.ofInt 0))]) rfl (Nat.le_of_ble_eq_true rfl) rfl ?_
  exact s_sizes_go (m0 := (J, so, ow, sh, fo, va)) (J := szJ x y J) 64 0 _ rfl (by rw [fillF_0, fillF_0]; exact MC_0 M) (mE_set mE_rfl (by omega))
def tenV (f : Nat → Int32) (H k : Nat) : Nat → Int32 := fun i => if 6 * H ≤ i ∧ i < 6 * H + k then (Int8.ofInt 10).toInt32 else f i
theorem tenV_0 (f : Nat → Int32) (H : Nat) : tenV f H 0 = f := funext fun i => if_neg (show ¬ (6 * H ≤ i ∧ i < 6 * H + 0) by omega)
theorem tenV_s (f : Nat → Int32) (H k : Nat) : upd (tenV f H k) (6 * H + k) (Int8.ofInt 10).toInt32 = tenV f H (k + 1) := funext fun i => by
  unfold upd tenV
  by_cases h : i = 6 * H + k
  · rw [if_pos h, if_pos (show 6 * H ≤ i ∧ i < 6 * H + (k + 1) by omega)]
  · rw [if_neg h]
    by_cases h2 : 6 * H ≤ i ∧ i < 6 * H + k
    · rw [if_pos h2, if_pos (show 6 * H ≤ i ∧ i < 6 * H + (k + 1) by omega)]
    · rw [if_neg h2, if_neg (show ¬ (6 * H ≤ i ∧ i < 6 * H + (k + 1)) by omega)]
def mfHeir (H : Nat) (p : Int32) (m : MF) : MF := (upd m.1 6 (Int32.ofNat (H + 1)), m.2.1, m.2.2.1, upd m.2.2.2.1 H p, upd m.2.2.2.2.1 H (Int32.ofInt 0), tenV m.2.2.2.2.2 H 6)
theorem s_comesE_go {d : Nat} {h0 : sHp} {H : Nat} {p : Int32} {J so ow sh fo va : Nat → Int32} {Q : Option Value → sHp → Prop} (hJ : J 6 = Int32.ofNat H) (hH : H < 5) (hQ : ∀ (h : sHp) (x : Int32), MC h (J, so, ow, sh, fo, tenV va H 6) → mE h0 h → sGo none 191 d 50 [some (.ref 60), some (.int p), some (.int x)] [] h Q) : ∀ (f k : Nat) (h : sHp), f + k = 6 → MC h (J, so, ow, sh, fo, tenV va H k) → mE h0 h → sGo none 191 d 22 [some (.ref 60), some (.int p), some (.int (Int32.ofNat k))] [] h Q := by
  have e6 : (Int8.ofInt 6).toInt32.toInt = 6 := rfl
  have eH := ofN_toInt (n := H) (by omega)
  intro f
  induction f with
  | zero =>
    intro k h hk M E
    have ek := ofN_toInt (n := k) (by omega)
    refine g_iload_n (i := 2) rfl rfl ?_
    refine g_bipush (n := 6) rfl ?_
    refine g_icmp_ge 50 rfl rfl (fun _ => ?_) (fun hc => absurd hc (by rw [i_le, e6, ek]; omega))
    rw [show k = 6 by omega] at M
    exact hQ h _ M E
  | succ f ih =>
    intro k h hk M E
    have ek := ofN_toInt (n := k) (by omega)
    have m1 : ((Int8.ofInt 6).toInt32 * J 6).toInt = 6 * H := by rw [hJ, i_mul (by rw [e6, eH]; omega) (by rw [e6, eH]; omega), e6, eH]
    have m2 : ((Int8.ofInt 6).toInt32 * J 6 + Int32.ofNat k).toInt = ((6 * H + k : Nat) : Int) := by rw [i_add (by rw [m1, ek]; omega) (by rw [m1, ek]; omega), m1, ek]; omega
    refine g_iload_n (i := 2) rfl rfl ?_
    refine g_bipush (n := 6) rfl ?_
    refine g_icmp_ge 50 rfl rfl (fun hc => absurd hc (by rw [i_le, e6, ek]; omega)) (fun _ => ?_)
    refine g_aload_n (i := 0) rfl rfl ?_
    refine g_getfield (v := .ref 66) rfl M.1 (by decide) rfl ?_
    refine g_bipush (n := 6) rfl ?_
    refine g_aload_n (i := 0) rfl rfl ?_
    refine g_getfield (v := .int (J 6)) rfl M.1 (by decide) rfl ?_
    refine g_imul rfl ?_
    refine g_iload_n (i := 2) rfl rfl ?_
    refine g_iadd rfl ?_
    refine g_bipush (n := 10) rfl ?_
    refine g_iastore (h1 := h.set 66 (.inl (0, 30, .inl (tenV va H (k + 1))))) rfl M.2.2.2.2.2 (i_in (by omega) (by omega)) (by rw [i_nat m2]; exact congrArg (fun e => h.set 66 (.inl (0, 30, .inl e))) (tenV_s va H k)) ?_
    refine g_iinc (i := 2) (L1 := [some (.ref 60), some (.int p), some (.int ((Int32.ofNat k) + Int32.ofInt 1))]) rfl rfl rfl ?_
    rw [ofN_add (by omega)]
    refine g_goto 22 rfl rfl ?_
    exact ih (k + 1) _ (by omega) (MC_5 M) (mE_set E (by omega))
theorem s_comesE {d : Nat} {h : sHp} {m : MF} {H : Nat} {p : Int32} (M : MC h m) (hJ : m.1 6 = Int32.ofNat H) (hH : H < 5) : sDo (d + 1) 191 [.ref 60, .int p] h (fun r h' => r = some (.int (Int32.ofNat H)) ∧ MC h' (mfHeir H p m) ∧ mE h h') := by
  obtain ⟨J, so, ow, sh, fo, va⟩ := m
  have hJ : J 6 = Int32.ofNat H := hJ
  have eH := ofN_toInt (n := H) (by omega)
  have e6 : (J 6).toInt = H := by rw [hJ, eH]
  refine sDo_of (d := d) (nL := 3) (L := [some (.ref 60), some (.int p), none]) rfl rfl ?_
  refine g_aload_n (i := 0) rfl rfl ?_
  refine g_getfield (v := .ref 64) rfl M.1 (by decide) rfl ?_
  refine g_aload_n (i := 0) rfl rfl ?_
  refine g_getfield (v := .int (J 6)) rfl M.1 (by decide) rfl ?_
  refine g_iload_n (i := 1) rfl rfl ?_
  refine g_iastore (h1 := h.set 64 (.inl (0, 5, .inl (upd sh H p)))) rfl M.2.2.2.1 (i_in (by omega) (by omega)) (by rw [i_nat e6]) ?_
  have M1 := MC_3 (f := upd sh H p) M
  have E1 : mE h (h.set 64 (.inl (0, 5, .inl (upd sh H p)))) := mE_set mE_rfl (by omega)
  generalize h.set 64 (.inl (0, 5, .inl (upd sh H p))) = h1 at M1 E1
  refine g_aload_n (i := 0) rfl rfl ?_
  refine g_getfield (v := .ref 65) rfl M1.1 (by decide) rfl ?_
  refine g_aload_n (i := 0) rfl rfl ?_
  refine g_getfield (v := .int (J 6)) rfl M1.1 (by decide) rfl ?_
  refine g_iconst (n := 0) rfl ?_
  refine g_iastore (h1 := h1.set 65 (.inl (0, 5, .inl (upd fo H (Int32.ofInt 0))))) rfl M1.2.2.2.2.1 (i_in (by omega) (by omega)) (by rw [i_nat e6]) ?_
  have M2 := MC_4 (f := upd fo H (Int32.ofInt 0)) M1
  have E2 : mE h (h1.set 65 (.inl (0, 5, .inl (upd fo H (Int32.ofInt 0))))) := mE_set E1 (by omega)
  generalize h1.set 65 (.inl (0, 5, .inl (upd fo H (Int32.ofInt 0)))) = h2 at M2 E2
  refine g_iconst (n := 0) rfl ?_
  refine g_istore_n (i := 2) (L1 := [some (.ref 60), some (.int p), some (.int (Int32.ofInt 0))]) rfl (Nat.le_of_ble_eq_true rfl) rfl ?_
  refine s_comesE_go (J := J) (so := so) (ow := ow) (va := va) hJ hH (fun h3 x M3 E3 => ?_) 6 0 h2 rfl (by rw [tenV_0]; exact M2) E2
  refine g_aload_n (i := 0) rfl rfl ?_
  refine g_dup rfl rfl ?_
  refine g_getfield (v := .int (J 6)) rfl M3.1 (by decide) rfl ?_
  refine g_dup_x1 rfl rfl rfl ?_
  refine g_iconst (n := 1) rfl ?_
  refine g_iadd rfl ?_
  rw [hJ, ofN_add (by omega)]
  refine g_putfield (h1 := h3.set 60 (mO (upd J 6 (Int32.ofNat (H + 1))))) rfl M3.1 (by decide) (Nat.le_of_ble_eq_true rfl) rfl rfl ?_
  refine g_ireturn (ty := .int) rfl rfl rfl ?_
  exact ⟨rfl, MC_0 M3, mE_set E3 (by omega)⟩
end
section
/-! ===== the reference's items ===== -/
def mfDo (m : MF) (a : Act) : MF := match a with
  | (0, w, hh, _) => mfSize (Int32.ofNat w) (Int32.ofNat hh) m
  | (1, v, fr, to) => (m.1, (fun i => if fr ≤ i ∧ i ≤ to then Int32.ofNat v else m.2.1 i), m.2.2)
  | (2, k, v, _) => (upd m.1 (2 + k) (Int32.ofNat v), m.2)
  | (3, share, _, _) => mfHeir (m.1 6).toNatClampNeg (Int32.ofNat share) m
  | (_, i, v, x) => (m.1, m.2.1, m.2.2.1, m.2.2.2.1, m.2.2.2.2.1, upd m.2.2.2.2.2 (6 * i + v) (Int32.ofNat x))
/-- alike but for the reader's own ints -/
def mS (m m' : MF) : Prop := jS m.1 m'.1 ∧ m'.2 = m.2
def qIm (h : sHp) (m : MF) (S n : Nat) (q : Option (List Act × Nat)) (r : Option Value) (h' : sHp) : Prop := match q with
  | some (as, A') => r = some (.int 1) ∧ ∃ m', MC h' m' ∧ mS (as.foldl mfDo m) m' ∧ rtJ m'.1 S n A' ∧ mE h h'
  | none => r = some (.int 0) ∧ ∃ m', MC h' m' ∧ mE h h'
theorem jS_rt {J J' : Nat → Int32} {S n A A' : Nat} (a : jS J J') (b : rtJ J S n A) (c : J' 22 = Int32.ofNat A') : rtJ J' S n A' := ⟨(a 21 (by decide) (by decide) (by decide)).trans b.1, c, (a 23 (by decide) (by decide) (by decide)).trans b.2.2⟩
theorem jS_upd {J J' : Nat → Int32} {j : Nat} {v : Int32} (a : jS J J') : jS (upd J j v) (upd J' j v) := fun i x y z => by
  by_cases e : i = j
  · rw [e, u_at, u_at]
  · rw [u_ne e, u_ne e]
    exact a i x y z
theorem s_itP {d : Nat} {h0 h : sHp} {J so ow sh fo va : Nat → Int32} {cl : Nat → Int64} {S n A : Nat} {T : Nat → Int32} {m0 : MF} {x1 x3 : Int32} {o4 o5 o6 : Option Value} {v : Nat} {hi : Int} (M : MC h (J, so, ow, sh, fo, va)) (m0e : mS m0 (J, so, ow, sh, fo, va)) (E0 : mE h0 h) (a8 : h[71]? = some (.inl (1, 800, .inr (.inl cl)))) (R : RT cl S n T) (hJ : rtJ J S n (A + 1)) (hA : A < 850) (hd : 3 ≤ d) (hb : T A = 32) (hv : 2 ≤ v ∧ v ≤ 5) (hhi : hi = if v = 2 then 3 else if v = 5 then 20 else x3.toInt) : sGo none 199 d 56 [some (.ref 60), some (.int x1), some (.int (Int32.ofNat v)), some (.int x3), o4, o5, o6] [] h (qIm h0 m0 S n (plcS T A (v - 2) 0 hi)) := by
  have hn : nxtS T A 0 hi = numS T (A + 1) 0 hi := if_pos hb
  unfold plcS
  rw [hn]
  rcases (show v = 2 ∨ v = 3 ∨ v = 4 ∨ v = 5 by omega) with rfl | rfl | rfl | rfl
  · skip
    have hh : hi = 3 := hhi
    subst hh
    have hnu := s_number (d := 0) (lo := Int32.ofInt 0) (hi := Int32.ofInt 3) M.1 a8 R hJ (by omega)
    replace hnu : sDo (0 + 2) 195 [.ref 60, .int (Int32.ofInt 0), .int (Int32.ofInt 3)] h (qMu h J (numS T (A + 1) 0 3)) := hnu
    refine g_iload_n (i := 2) rfl rfl ?_
    refine g_if_ne 103 rfl rfl (fun _ => ?_) (fun hc => absurd hc (by exact fun z => absurd z (by decide)))
    refine g_iload_n (i := 2) rfl rfl ?_
    refine g_iconst (n := 1) rfl ?_
    refine g_icmp_ne 185 rfl rfl (fun _ => ?_) (fun hc => absurd hc (by exact fun z => absurd z (by decide)))
    refine g_iload_n (i := 2) rfl rfl ?_
    refine g_bipush (n := 6) rfl ?_
    refine g_icmp_ne 275 rfl rfl (fun _ => ?_) (fun hc => absurd hc (by exact fun z => absurd z (by decide)))
    refine g_aload_n (i := 0) rfl rfl ?_
    refine g_iconst (n := 0) rfl ?_
    refine g_iload_n (i := 2) rfl rfl ?_
    refine g_iconst (n := 2) rfl ?_
    refine g_icmp_ne 286 rfl rfl (fun hc => absurd hc (by exact fun z => z rfl)) (fun _ => ?_)
    refine g_iconst (n := 3) rfl ?_
    refine g_goto 297 rfl rfl ?_
    refine g_virt2 rfl (by decide) rfl M.1 rfl (Nat.le_of_ble_eq_true rfl) (sDo_up (d := 2) (by omega) hnu) (fun r h_1 hq => ?_)
    obtain ⟨J1, rfl, js1, hq⟩ := hq
    cases hs1 : numS T (A + 1) 0 3 with
    | none =>
      rw [hs1] at hq
      obtain rfl := hq
      refine g_if_ne 305 rfl rfl (fun hc => absurd hc (by decide)) (fun _ => ?_)
      refine g_iconst (n := 0) rfl ?_
      refine g_ireturn (ty := .boolean) rfl rfl (by decide) ?_
      exact ⟨rfl, _, MC_0 M, mE_tr E0 (mE_set mE_rfl (by omega))⟩
    | some vp =>
      obtain ⟨v1, A1⟩ := vp
      rw [hs1] at hq
      obtain ⟨rfl, t1, p1⟩ := hq
      refine g_if_ne 305 rfl rfl (fun _ => ?_) (fun hc => absurd hc (by decide))
      have r1 : (h.set 60 (mO J1))[60]? = some (mO J1) := s_set_eq M.1
      refine g_iload_n (i := 2) rfl rfl ?_
      refine g_iconst (n := 2) rfl ?_
      refine g_icmp_ne 321 rfl rfl (fun hc => absurd hc (by exact fun z => z rfl)) (fun _ => ?_)
      refine g_aload_n (i := 0) rfl rfl ?_
      refine g_aload_n (i := 0) rfl rfl ?_
      refine g_getfield (v := .int (J1 24)) rfl r1 (by decide) rfl ?_
      rw [t1]
      refine g_putfield (h1 := h.set 60 (mO (upd J1 2 (Int32.ofNat v1)))) rfl r1 (by decide) (Nat.le_of_ble_eq_true rfl) rfl (List.set_set ..) ?_
      refine g_goto 361 rfl rfl ?_
      refine g_iconst (n := 1) rfl ?_
      refine g_ireturn (ty := .boolean) rfl rfl (by decide) ?_
      have k := jS_rt js1 hJ p1
      exact ⟨rfl, _, MC_0 M, ⟨jS_upd (jS_tr m0e.1 js1), m0e.2⟩, ⟨k.1, k.2.1, k.2.2⟩, mE_tr E0 (mE_set mE_rfl (by omega))⟩
  · skip
    have hh : hi = x3.toInt := hhi
    subst hh
    have hnu := s_number (d := 0) (lo := Int32.ofInt 0) (hi := x3) M.1 a8 R hJ (by omega)
    replace hnu : sDo (0 + 2) 195 [.ref 60, .int (Int32.ofInt 0), .int (x3)] h (qMu h J (numS T (A + 1) 0 x3.toInt)) := hnu
    refine g_iload_n (i := 2) rfl rfl ?_
    refine g_if_ne 103 rfl rfl (fun _ => ?_) (fun hc => absurd hc (by exact fun z => absurd z (by decide)))
    refine g_iload_n (i := 2) rfl rfl ?_
    refine g_iconst (n := 1) rfl ?_
    refine g_icmp_ne 185 rfl rfl (fun _ => ?_) (fun hc => absurd hc (by exact fun z => absurd z (by decide)))
    refine g_iload_n (i := 2) rfl rfl ?_
    refine g_bipush (n := 6) rfl ?_
    refine g_icmp_ne 275 rfl rfl (fun _ => ?_) (fun hc => absurd hc (by exact fun z => absurd z (by decide)))
    refine g_aload_n (i := 0) rfl rfl ?_
    refine g_iconst (n := 0) rfl ?_
    refine g_iload_n (i := 2) rfl rfl ?_
    refine g_iconst (n := 2) rfl ?_
    refine g_icmp_ne 286 rfl rfl (fun _ => ?_) (fun hc => absurd hc (by exact fun z => absurd z (by decide)))
    refine g_iload_n (i := 2) rfl rfl ?_
    refine g_iconst (n := 5) rfl ?_
    refine g_icmp_ne 296 rfl rfl (fun _ => ?_) (fun hc => absurd hc (by exact fun z => absurd z (by decide)))
    refine g_iload_n (i := 3) rfl rfl ?_
    refine g_virt2 rfl (by decide) rfl M.1 rfl (Nat.le_of_ble_eq_true rfl) (sDo_up (d := 2) (by omega) hnu) (fun r h_1 hq => ?_)
    obtain ⟨J1, rfl, js1, hq⟩ := hq
    cases hs1 : numS T (A + 1) 0 x3.toInt with
    | none =>
      rw [hs1] at hq
      obtain rfl := hq
      refine g_if_ne 305 rfl rfl (fun hc => absurd hc (by decide)) (fun _ => ?_)
      refine g_iconst (n := 0) rfl ?_
      refine g_ireturn (ty := .boolean) rfl rfl (by decide) ?_
      exact ⟨rfl, _, MC_0 M, mE_tr E0 (mE_set mE_rfl (by omega))⟩
    | some vp =>
      obtain ⟨v1, A1⟩ := vp
      rw [hs1] at hq
      obtain ⟨rfl, t1, p1⟩ := hq
      refine g_if_ne 305 rfl rfl (fun _ => ?_) (fun hc => absurd hc (by decide))
      have r1 : (h.set 60 (mO J1))[60]? = some (mO J1) := s_set_eq M.1
      refine g_iload_n (i := 2) rfl rfl ?_
      refine g_iconst (n := 2) rfl ?_
      refine g_icmp_ne 321 rfl rfl (fun _ => ?_) (fun hc => absurd hc (by exact fun z => absurd z (by decide)))
      refine g_iload_n (i := 2) rfl rfl ?_
      refine g_iconst (n := 3) rfl ?_
      refine g_icmp_ne 337 rfl rfl (fun hc => absurd hc (by exact fun z => z rfl)) (fun _ => ?_)
      refine g_aload_n (i := 0) rfl rfl ?_
      refine g_aload_n (i := 0) rfl rfl ?_
      refine g_getfield (v := .int (J1 24)) rfl r1 (by decide) rfl ?_
      rw [t1]
      refine g_putfield (h1 := h.set 60 (mO (upd J1 3 (Int32.ofNat v1)))) rfl r1 (by decide) (Nat.le_of_ble_eq_true rfl) rfl (List.set_set ..) ?_
      refine g_goto 361 rfl rfl ?_
      refine g_iconst (n := 1) rfl ?_
      refine g_ireturn (ty := .boolean) rfl rfl (by decide) ?_
      have k := jS_rt js1 hJ p1
      exact ⟨rfl, _, MC_0 M, ⟨jS_upd (jS_tr m0e.1 js1), m0e.2⟩, ⟨k.1, k.2.1, k.2.2⟩, mE_tr E0 (mE_set mE_rfl (by omega))⟩
  · skip
    have hh : hi = x3.toInt := hhi
    subst hh
    have hnu := s_number (d := 0) (lo := Int32.ofInt 0) (hi := x3) M.1 a8 R hJ (by omega)
    replace hnu : sDo (0 + 2) 195 [.ref 60, .int (Int32.ofInt 0), .int (x3)] h (qMu h J (numS T (A + 1) 0 x3.toInt)) := hnu
    refine g_iload_n (i := 2) rfl rfl ?_
    refine g_if_ne 103 rfl rfl (fun _ => ?_) (fun hc => absurd hc (by exact fun z => absurd z (by decide)))
    refine g_iload_n (i := 2) rfl rfl ?_
    refine g_iconst (n := 1) rfl ?_
    refine g_icmp_ne 185 rfl rfl (fun _ => ?_) (fun hc => absurd hc (by exact fun z => absurd z (by decide)))
    refine g_iload_n (i := 2) rfl rfl ?_
    refine g_bipush (n := 6) rfl ?_
    refine g_icmp_ne 275 rfl rfl (fun _ => ?_) (fun hc => absurd hc (by exact fun z => absurd z (by decide)))
    refine g_aload_n (i := 0) rfl rfl ?_
    refine g_iconst (n := 0) rfl ?_
    refine g_iload_n (i := 2) rfl rfl ?_
    refine g_iconst (n := 2) rfl ?_
    refine g_icmp_ne 286 rfl rfl (fun _ => ?_) (fun hc => absurd hc (by exact fun z => absurd z (by decide)))
    refine g_iload_n (i := 2) rfl rfl ?_
    refine g_iconst (n := 5) rfl ?_
    refine g_icmp_ne 296 rfl rfl (fun _ => ?_) (fun hc => absurd hc (by exact fun z => absurd z (by decide)))
    refine g_iload_n (i := 3) rfl rfl ?_
    refine g_virt2 rfl (by decide) rfl M.1 rfl (Nat.le_of_ble_eq_true rfl) (sDo_up (d := 2) (by omega) hnu) (fun r h_1 hq => ?_)
    obtain ⟨J1, rfl, js1, hq⟩ := hq
    cases hs1 : numS T (A + 1) 0 x3.toInt with
    | none =>
      rw [hs1] at hq
      obtain rfl := hq
      refine g_if_ne 305 rfl rfl (fun hc => absurd hc (by decide)) (fun _ => ?_)
      refine g_iconst (n := 0) rfl ?_
      refine g_ireturn (ty := .boolean) rfl rfl (by decide) ?_
      exact ⟨rfl, _, MC_0 M, mE_tr E0 (mE_set mE_rfl (by omega))⟩
    | some vp =>
      obtain ⟨v1, A1⟩ := vp
      rw [hs1] at hq
      obtain ⟨rfl, t1, p1⟩ := hq
      refine g_if_ne 305 rfl rfl (fun _ => ?_) (fun hc => absurd hc (by decide))
      have r1 : (h.set 60 (mO J1))[60]? = some (mO J1) := s_set_eq M.1
      refine g_iload_n (i := 2) rfl rfl ?_
      refine g_iconst (n := 2) rfl ?_
      refine g_icmp_ne 321 rfl rfl (fun _ => ?_) (fun hc => absurd hc (by exact fun z => absurd z (by decide)))
      refine g_iload_n (i := 2) rfl rfl ?_
      refine g_iconst (n := 3) rfl ?_
      refine g_icmp_ne 337 rfl rfl (fun _ => ?_) (fun hc => absurd hc (by exact fun z => absurd z (by decide)))
      refine g_iload_n (i := 2) rfl rfl ?_
      refine g_iconst (n := 4) rfl ?_
      refine g_icmp_ne 353 rfl rfl (fun hc => absurd hc (by exact fun z => z rfl)) (fun _ => ?_)
      refine g_aload_n (i := 0) rfl rfl ?_
      refine g_aload_n (i := 0) rfl rfl ?_
      refine g_getfield (v := .int (J1 24)) rfl r1 (by decide) rfl ?_
      rw [t1]
      refine g_putfield (h1 := h.set 60 (mO (upd J1 4 (Int32.ofNat v1)))) rfl r1 (by decide) (Nat.le_of_ble_eq_true rfl) rfl (List.set_set ..) ?_
      refine g_goto 361 rfl rfl ?_
      refine g_iconst (n := 1) rfl ?_
      refine g_ireturn (ty := .boolean) rfl rfl (by decide) ?_
      have k := jS_rt js1 hJ p1
      exact ⟨rfl, _, MC_0 M, ⟨jS_upd (jS_tr m0e.1 js1), m0e.2⟩, ⟨k.1, k.2.1, k.2.2⟩, mE_tr E0 (mE_set mE_rfl (by omega))⟩
  · skip
    have hh : hi = 20 := hhi
    subst hh
    have hnu := s_number (d := 0) (lo := Int32.ofInt 0) (hi := (Int8.ofInt 20).toInt32) M.1 a8 R hJ (by omega)
    replace hnu : sDo (0 + 2) 195 [.ref 60, .int (Int32.ofInt 0), .int ((Int8.ofInt 20).toInt32)] h (qMu h J (numS T (A + 1) 0 20)) := hnu
    refine g_iload_n (i := 2) rfl rfl ?_
    refine g_if_ne 103 rfl rfl (fun _ => ?_) (fun hc => absurd hc (by exact fun z => absurd z (by decide)))
    refine g_iload_n (i := 2) rfl rfl ?_
    refine g_iconst (n := 1) rfl ?_
    refine g_icmp_ne 185 rfl rfl (fun _ => ?_) (fun hc => absurd hc (by exact fun z => absurd z (by decide)))
    refine g_iload_n (i := 2) rfl rfl ?_
    refine g_bipush (n := 6) rfl ?_
    refine g_icmp_ne 275 rfl rfl (fun _ => ?_) (fun hc => absurd hc (by exact fun z => absurd z (by decide)))
    refine g_aload_n (i := 0) rfl rfl ?_
    refine g_iconst (n := 0) rfl ?_
    refine g_iload_n (i := 2) rfl rfl ?_
    refine g_iconst (n := 2) rfl ?_
    refine g_icmp_ne 286 rfl rfl (fun _ => ?_) (fun hc => absurd hc (by exact fun z => absurd z (by decide)))
    refine g_iload_n (i := 2) rfl rfl ?_
    refine g_iconst (n := 5) rfl ?_
    refine g_icmp_ne 296 rfl rfl (fun hc => absurd hc (by exact fun z => z rfl)) (fun _ => ?_)
    refine g_bipush (n := 20) rfl ?_
    refine g_goto 297 rfl rfl ?_
    refine g_virt2 rfl (by decide) rfl M.1 rfl (Nat.le_of_ble_eq_true rfl) (sDo_up (d := 2) (by omega) hnu) (fun r h_1 hq => ?_)
    obtain ⟨J1, rfl, js1, hq⟩ := hq
    cases hs1 : numS T (A + 1) 0 20 with
    | none =>
      rw [hs1] at hq
      obtain rfl := hq
      refine g_if_ne 305 rfl rfl (fun hc => absurd hc (by decide)) (fun _ => ?_)
      refine g_iconst (n := 0) rfl ?_
      refine g_ireturn (ty := .boolean) rfl rfl (by decide) ?_
      exact ⟨rfl, _, MC_0 M, mE_tr E0 (mE_set mE_rfl (by omega))⟩
    | some vp =>
      obtain ⟨v1, A1⟩ := vp
      rw [hs1] at hq
      obtain ⟨rfl, t1, p1⟩ := hq
      refine g_if_ne 305 rfl rfl (fun _ => ?_) (fun hc => absurd hc (by decide))
      have r1 : (h.set 60 (mO J1))[60]? = some (mO J1) := s_set_eq M.1
      refine g_iload_n (i := 2) rfl rfl ?_
      refine g_iconst (n := 2) rfl ?_
      refine g_icmp_ne 321 rfl rfl (fun _ => ?_) (fun hc => absurd hc (by exact fun z => absurd z (by decide)))
      refine g_iload_n (i := 2) rfl rfl ?_
      refine g_iconst (n := 3) rfl ?_
      refine g_icmp_ne 337 rfl rfl (fun _ => ?_) (fun hc => absurd hc (by exact fun z => absurd z (by decide)))
      refine g_iload_n (i := 2) rfl rfl ?_
      refine g_iconst (n := 4) rfl ?_
      refine g_icmp_ne 353 rfl rfl (fun _ => ?_) (fun hc => absurd hc (by exact fun z => absurd z (by decide)))
      refine g_aload_n (i := 0) rfl rfl ?_
      refine g_aload_n (i := 0) rfl rfl ?_
      refine g_getfield (v := .int (J1 24)) rfl r1 (by decide) rfl ?_
      rw [t1]
      refine g_putfield (h1 := h.set 60 (mO (upd J1 5 (Int32.ofNat v1)))) rfl r1 (by decide) (Nat.le_of_ble_eq_true rfl) rfl (List.set_set ..) ?_
      refine g_iconst (n := 1) rfl ?_
      refine g_ireturn (ty := .boolean) rfl rfl (by decide) ?_
      have k := jS_rt js1 hJ p1
      exact ⟨rfl, _, MC_0 M, ⟨jS_upd (jS_tr m0e.1 js1), m0e.2⟩, ⟨k.1, k.2.1, k.2.2⟩, mE_tr E0 (mE_set mE_rfl (by omega))⟩
theorem s_it0 {d : Nat} {h0 h : sHp} {J so ow sh fo va : Nat → Int32} {cl : Nat → Int64} {S n A : Nat} {T : Nat → Int32} {m0 : MF} {x1 x3 : Int32} {o4 o5 o6 : Option Value} (M : MC h (J, so, ow, sh, fo, va)) (m0e : mS m0 (J, so, ow, sh, fo, va)) (E0 : mE h0 h) (a8 : h[71]? = some (.inl (1, 800, .inr (.inl cl)))) (R : RT cl S n T) (hJ : rtJ J S n (A + 1)) (hA : A < 850) (hd : 3 ≤ d) (hb : T A = 32) : sGo none 199 d 56 [some (.ref 60), some (.int x1), some (.int (Int32.ofNat 0)), some (.int x3), o4, o5, o6] [] h (qIm h0 m0 S n (sizS T A)) := by
  have hn : nxtS T A 2 8 = numS T (A + 1) 2 8 := if_pos hb
  have hnu := s_number (d := 0) (lo := Int32.ofInt 2) (hi := (Int8.ofInt 8).toInt32) M.1 a8 R hJ (by omega)
  replace hnu : sDo (0 + 2) 195 [.ref 60, .int (Int32.ofInt 2), .int ((Int8.ofInt 8).toInt32)] h (qMu h J (numS T (A + 1) 2 8)) := hnu
  unfold sizS
  rw [hn]
  refine g_iload_n (i := 2) rfl rfl ?_
  refine g_if_ne 103 rfl rfl (fun hc => absurd hc (by exact fun z => z rfl)) (fun _ => ?_)
  refine g_aload_n (i := 0) rfl rfl ?_
  refine g_iconst (n := 2) rfl ?_
  refine g_bipush (n := 8) rfl ?_
  refine g_virt2 rfl (by decide) rfl M.1 rfl (Nat.le_of_ble_eq_true rfl) (sDo_up (d := 2) (by omega) hnu) (fun r h_1 hq => ?_)
  obtain ⟨J1, rfl, js1, hq⟩ := hq
  cases hs1 : numS T (A + 1) 2 8 with
  | none =>
    rw [hs1] at hq
    obtain rfl := hq
    refine g_if_ne 72 rfl rfl (fun hc => absurd hc (by decide)) (fun _ => ?_)
    refine g_iconst (n := 0) rfl ?_
    refine g_ireturn (ty := .boolean) rfl rfl (by decide) ?_
    exact ⟨rfl, _, MC_0 M, mE_tr E0 (mE_set mE_rfl (by omega))⟩
  | some vp =>
    obtain ⟨v1, A1⟩ := vp
    rw [hs1] at hq
    obtain ⟨rfl, t1, p1⟩ := hq
    refine g_if_ne 72 rfl rfl (fun _ => ?_) (fun hc => absurd hc (by decide))
    have nl := nxtS_le (hn.trans hs1)
    have r1 : (h.set 60 (mO J1))[60]? = some (mO J1) := s_set_eq M.1
    have k1 := jS_rt js1 hJ p1
    have hnx := s_next (d := 0) (lo := Int32.ofInt 2) (hi := (Int8.ofInt 8).toInt32) r1 (by rw [s_set_ne (by decide)]; exact a8) R k1 (by omega)
    replace hnx : sDo (0 + 3) 196 [.ref 60, .int (Int32.ofInt 2), .int ((Int8.ofInt 8).toInt32)] (h.set 60 (mO J1)) (qMu (h.set 60 (mO J1)) J1 (nxtS T A1 2 8)) := hnx
    dsimp only
    refine g_aload_n (i := 0) rfl rfl ?_
    refine g_getfield (v := .int (J1 24)) rfl r1 (by decide) rfl ?_
    rw [t1]
    refine g_istore (i := 4) (L1 := [some (.ref 60), some (.int x1), some (.int (Int32.ofNat 0)), some (.int x3), some (.int (Int32.ofNat v1)), o5, o6]) rfl (Nat.le_of_ble_eq_true rfl) rfl ?_
    refine g_aload_n (i := 0) rfl rfl ?_
    refine g_iconst (n := 2) rfl ?_
    refine g_bipush (n := 8) rfl ?_
    refine g_virt2 rfl (by decide) rfl r1 rfl (Nat.le_of_ble_eq_true rfl) (sDo_up (d := 3) (by omega) hnx) (fun r h_2 hq => ?_)
    obtain ⟨J2, rfl, js2, hq⟩ := hq
    cases hs2 : nxtS T A1 2 8 with
    | none =>
      rw [hs2] at hq
      obtain rfl := hq
      refine g_if_ne 90 rfl rfl (fun hc => absurd hc (by decide)) (fun _ => ?_)
      refine g_iconst (n := 0) rfl ?_
      refine g_ireturn (ty := .boolean) rfl rfl (by decide) ?_
      exact ⟨rfl, _, MC_0 (MC_0 M), mE_tr E0 (mE_set (mE_set mE_rfl (by omega)) (by omega))⟩
    | some vp =>
      obtain ⟨v2, A2⟩ := vp
      rw [hs2] at hq
      obtain ⟨rfl, t2, p2⟩ := hq
      refine g_if_ne 90 rfl rfl (fun _ => ?_) (fun hc => absurd hc (by decide))
      have M2 := MC_0 (f := J2) (MC_0 (f := J1) M)
      refine g_aload_n (i := 0) rfl rfl ?_
      refine g_iload (i := 4) rfl rfl ?_
      refine g_aload_n (i := 0) rfl rfl ?_
      refine g_getfield (v := .int (J2 24)) rfl M2.1 (by decide) rfl ?_
      rw [t2]
      refine g_virt2 rfl (by decide) rfl M2.1 rfl (Nat.le_of_ble_eq_true rfl) (sDo_up (d := 1) (by omega) (s_sizes (d := 0) (x := Int32.ofNat v1) (y := Int32.ofNat v2) M2)) (fun r h_3 hq => ?_)
      obtain ⟨rfl, q1, q2⟩ := hq
      refine g_goto 361 rfl rfl ?_
      refine g_iconst (n := 1) rfl ?_
      refine g_ireturn (ty := .boolean) rfl rfl (by decide) ?_
      have k2 := jS_rt js2 k1 p2
      have mz : mS (mfSize (Int32.ofNat v1) (Int32.ofNat v2) m0) (mfSize (Int32.ofNat v1) (Int32.ofNat v2) (J2, so, ow, sh, fo, va)) := by
        obtain ⟨b1, b2⟩ := m0e
        obtain ⟨J0, R0⟩ := m0
        have b2 : (so, ow, sh, fo, va) = R0 := b2
        subst b2
        exact ⟨jS_upd (jS_upd (jS_upd (jS_upd (jS_tr (jS_tr b1 js1) js2)))), rfl⟩
      exact ⟨rfl, _, q1, mz, ⟨k2.1, k2.2.1, k2.2.2⟩, mE_tr E0 (mE_tr (mE_set (mE_set mE_rfl (by omega)) (by omega)) q2)⟩
end
section
/-! ===== the reference's items: soil, heirs ===== -/
def slF (so : Nat → Int32) (v : Int32) (fr k : Nat) : Nat → Int32 := fun i => if fr ≤ i ∧ i < k then v else so i
theorem slF_s (so : Nat → Int32) (v : Int32) (fr k : Nat) (h : fr ≤ k) : upd (slF so v fr k) k v = slF so v fr (k + 1) := funext fun i => by
  unfold upd slF
  by_cases e : i = k
  · rw [if_pos e, if_pos (show fr ≤ i ∧ i < k + 1 by omega)]
  · rw [if_neg e]
    by_cases h2 : fr ≤ i ∧ i < k
    · rw [if_pos h2, if_pos (show fr ≤ i ∧ i < k + 1 by omega)]
    · rw [if_neg h2, if_neg (show ¬ (fr ≤ i ∧ i < k + 1) by omega)]
theorem s_it1_go {d : Nat} {h0 : sHp} {J so ow sh fo va : Nat → Int32} {v fr to : Nat} {x1 x3 : Int32} {Q : Option Value → sHp → Prop} (t24 : J 24 = Int32.ofNat to) (hto : to ≤ 63) (hQ : ∀ (h : sHp) (x : Int32), MC h (J, slF so (Int32.ofNat v) fr (to + 1), ow, sh, fo, va) → mE h0 h → sGo none 199 d 182 [some (.ref 60), some (.int x1), some (.int (Int32.ofNat 1)), some (.int x3), some (.int (Int32.ofNat v)), some (.int (Int32.ofNat fr)), some (.int x)] [] h Q) : ∀ (f k : Nat) (h : sHp), f + k = to + 1 → fr ≤ k → MC h (J, slF so (Int32.ofNat v) fr k, ow, sh, fo, va) → mE h0 h → sGo none 199 d 158 [some (.ref 60), some (.int x1), some (.int (Int32.ofNat 1)), some (.int x3), some (.int (Int32.ofNat v)), some (.int (Int32.ofNat fr)), some (.int (Int32.ofNat k))] [] h Q := by
  have et := ofN_toInt (n := to) (by omega)
  intro f
  induction f with
  | zero =>
    intro k h hk hf M E
    have ek := ofN_toInt (n := k) (by omega)
    refine g_iload (i := 6) rfl rfl ?_
    refine g_aload_n (i := 0) rfl rfl ?_
    refine g_getfield (v := .int (J 24)) rfl M.1 (by decide) rfl ?_
    refine g_icmp_gt 182 rfl rfl (fun _ => ?_) (fun hc => absurd hc (by rw [t24, i_lt, et, ek]; omega))
    rw [show k = to + 1 by omega] at M
    exact hQ h _ M E
  | succ f ih =>
    intro k h hk hf M E
    have ek := ofN_toInt (n := k) (by omega)
    refine g_iload (i := 6) rfl rfl ?_
    refine g_aload_n (i := 0) rfl rfl ?_
    refine g_getfield (v := .int (J 24)) rfl M.1 (by decide) rfl ?_
    refine g_icmp_gt 182 rfl rfl (fun hc => absurd hc (by rw [t24, i_lt, et, ek]; omega)) (fun _ => ?_)
    refine g_aload_n (i := 0) rfl rfl ?_
    refine g_getfield (v := .ref 62) rfl M.1 (by decide) rfl ?_
    refine g_iload (i := 6) rfl rfl ?_
    refine g_iload (i := 4) rfl rfl ?_
    refine g_iastore (h1 := h.set 62 (.inl (0, 64, .inl (slF so (Int32.ofNat v) fr (k + 1))))) rfl M.2.1 (i_in (by omega) (by omega)) (by rw [i_nat ek]; exact congrArg (fun e => h.set 62 (.inl (0, 64, .inl e))) (slF_s so _ fr k hf)) ?_
    refine g_iinc (i := 6) (L1 := [some (.ref 60), some (.int x1), some (.int (Int32.ofNat 1)), some (.int x3), some (.int (Int32.ofNat v)), some (.int (Int32.ofNat fr)), some (.int ((Int32.ofNat k) + Int32.ofInt 1))]) rfl rfl rfl ?_
    rw [ofN_add (by omega)]
    refine g_goto 158 rfl rfl ?_
    exact ih (k + 1) _ (by omega) (by omega) (MC_1 M) (mE_set E (by omega))
theorem s_it1 {d : Nat} {h0 h : sHp} {J so ow sh fo va : Nat → Int32} {cl : Nat → Int64} {S n A : Nat} {T : Nat → Int32} {m0 : MF} {x1 x3 : Int32} {o4 o5 o6 : Option Value} (M : MC h (J, so, ow, sh, fo, va)) (m0e : mS m0 (J, so, ow, sh, fo, va)) (E0 : mE h0 h) (a8 : h[71]? = some (.inl (1, 800, .inr (.inl cl)))) (R : RT cl S n T) (hJ : rtJ J S n (A + 1)) (hA : A < 850) (hd : 3 ≤ d) (hb : T A = 32) (hx3 : x3.toInt ≤ 63) : sGo none 199 d 56 [some (.ref 60), some (.int x1), some (.int (Int32.ofNat 1)), some (.int x3), o4, o5, o6] [] h (qIm h0 m0 S n (soiS T A x3.toInt)) := by
  have hn : nxtS T A 0 5 = numS T (A + 1) 0 5 := if_pos hb
  have hnu := s_number (d := 0) (lo := Int32.ofInt 0) (hi := Int32.ofInt 5) M.1 a8 R hJ (by omega)
  replace hnu : sDo (0 + 2) 195 [.ref 60, .int (Int32.ofInt 0), .int (Int32.ofInt 5)] h (qMu h J (numS T (A + 1) 0 5)) := hnu
  unfold soiS
  rw [hn]
  refine g_iload_n (i := 2) rfl rfl ?_
  refine g_if_ne 103 rfl rfl (fun _ => ?_) (fun hc => absurd hc (by exact fun z => absurd z (by decide)))
  refine g_iload_n (i := 2) rfl rfl ?_
  refine g_iconst (n := 1) rfl ?_
  refine g_icmp_ne 185 rfl rfl (fun hc => absurd hc (by exact fun z => z rfl)) (fun _ => ?_)
  refine g_aload_n (i := 0) rfl rfl ?_
  refine g_iconst (n := 0) rfl ?_
  refine g_iconst (n := 5) rfl ?_
  refine g_virt2 rfl (by decide) rfl M.1 rfl (Nat.le_of_ble_eq_true rfl) (sDo_up (d := 2) (by omega) hnu) (fun r h_1 hq => ?_)
  obtain ⟨J1, rfl, js1, hq⟩ := hq
  cases hs1 : numS T (A + 1) 0 5 with
  | none =>
    rw [hs1] at hq
    obtain rfl := hq
    refine g_if_ne 119 rfl rfl (fun hc => absurd hc (by decide)) (fun _ => ?_)
    refine g_iconst (n := 0) rfl ?_
    refine g_ireturn (ty := .boolean) rfl rfl (by decide) ?_
    exact ⟨rfl, _, MC_0 M, mE_tr E0 (mE_set mE_rfl (by omega))⟩
  | some vp =>
    obtain ⟨v1, A1⟩ := vp
    rw [hs1] at hq
    obtain ⟨rfl, t1, p1⟩ := hq
    refine g_if_ne 119 rfl rfl (fun _ => ?_) (fun hc => absurd hc (by decide))
    have nl := nxtS_le (hn.trans hs1)
    have r1 : (h.set 60 (mO J1))[60]? = some (mO J1) := s_set_eq M.1
    have k1 := jS_rt js1 hJ p1
    have hnx := s_next (d := 0) (lo := Int32.ofInt 0) (hi := x3) r1 (by rw [s_set_ne (by decide)]; exact a8) R k1 (by omega)
    replace hnx : sDo (0 + 3) 196 [.ref 60, .int (Int32.ofInt 0), .int x3] (h.set 60 (mO J1)) (qMu (h.set 60 (mO J1)) J1 (nxtS T A1 0 x3.toInt)) := hnx
    dsimp only
    refine g_aload_n (i := 0) rfl rfl ?_
    refine g_getfield (v := .int (J1 24)) rfl r1 (by decide) rfl ?_
    rw [t1]
    refine g_istore (i := 4) (L1 := [some (.ref 60), some (.int x1), some (.int (Int32.ofNat 1)), some (.int x3), some (.int (Int32.ofNat v1)), o5, o6]) rfl (Nat.le_of_ble_eq_true rfl) rfl ?_
    refine g_aload_n (i := 0) rfl rfl ?_
    refine g_iconst (n := 0) rfl ?_
    refine g_iload_n (i := 3) rfl rfl ?_
    refine g_virt2 rfl (by decide) rfl r1 rfl (Nat.le_of_ble_eq_true rfl) (sDo_up (d := 3) (by omega) hnx) (fun r h_2 hq => ?_)
    obtain ⟨J2, rfl, js2, hq⟩ := hq
    cases hs2 : nxtS T A1 0 x3.toInt with
    | none =>
      rw [hs2] at hq
      obtain rfl := hq
      refine g_if_ne 136 rfl rfl (fun hc => absurd hc (by decide)) (fun _ => ?_)
      refine g_iconst (n := 0) rfl ?_
      refine g_ireturn (ty := .boolean) rfl rfl (by decide) ?_
      exact ⟨rfl, _, MC_0 (MC_0 M), mE_tr E0 (mE_set (mE_set mE_rfl (by omega)) (by omega))⟩
    | some vp =>
      obtain ⟨v2, A2⟩ := vp
      rw [hs2] at hq
      obtain ⟨rfl, t2, p2⟩ := hq
      refine g_if_ne 136 rfl rfl (fun _ => ?_) (fun hc => absurd hc (by decide))
      have nl2 := nxtS_le hs2
      have ev2 := ofN_toInt (n := v2) (by omega)
      have M2 := MC_0 (f := J2) (MC_0 (f := J1) M)
      have k2 := jS_rt js2 k1 p2
      have hny := s_next (d := 0) (lo := Int32.ofNat v2) (hi := x3) M2.1 (by rw [s_set_ne (by decide), s_set_ne (by decide)]; exact a8) R k2 (by omega)
      rw [ev2] at hny
      dsimp only
      refine g_aload_n (i := 0) rfl rfl ?_
      refine g_getfield (v := .int (J2 24)) rfl M2.1 (by decide) rfl ?_
      rw [t2]
      refine g_istore (i := 5) (L1 := [some (.ref 60), some (.int x1), some (.int (Int32.ofNat 1)), some (.int x3), some (.int (Int32.ofNat v1)), some (.int (Int32.ofNat v2)), o6]) rfl (Nat.le_of_ble_eq_true rfl) rfl ?_
      refine g_aload_n (i := 0) rfl rfl ?_
      refine g_iload (i := 5) rfl rfl ?_
      refine g_iload_n (i := 3) rfl rfl ?_
      refine g_virt2 rfl (by decide) rfl M2.1 rfl (Nat.le_of_ble_eq_true rfl) (sDo_up (d := 3) (by omega) hny) (fun r h_3 hq => ?_)
      obtain ⟨J3, rfl, js3, hq⟩ := hq
      cases hs3 : nxtS T A2 v2 x3.toInt with
      | none =>
        rw [hs3] at hq
        obtain rfl := hq
        refine g_if_ne 154 rfl rfl (fun hc => absurd hc (by decide)) (fun _ => ?_)
        refine g_iconst (n := 0) rfl ?_
        refine g_ireturn (ty := .boolean) rfl rfl (by decide) ?_
        exact ⟨rfl, _, MC_0 M2, mE_tr E0 (mE_set (mE_set (mE_set mE_rfl (by omega)) (by omega)) (by omega))⟩
      | some vp =>
        obtain ⟨v3, A3⟩ := vp
        rw [hs3] at hq
        obtain ⟨rfl, t3, p3⟩ := hq
        refine g_if_ne 154 rfl rfl (fun _ => ?_) (fun hc => absurd hc (by decide))
        have nl3 := nxtS_le hs3
        have M3 := MC_0 (f := J3) M2
        have k3 := jS_rt js3 k2 p3
        refine g_iload (i := 5) rfl rfl ?_
        refine g_istore (i := 6) (L1 := [some (.ref 60), some (.int x1), some (.int (Int32.ofNat 1)), some (.int x3), some (.int (Int32.ofNat v1)), some (.int (Int32.ofNat v2)), some (.int (Int32.ofNat v2))]) rfl (Nat.le_of_ble_eq_true rfl) rfl ?_
        have sl0 : slF so (Int32.ofNat v1) v2 v2 = so := funext fun i => if_neg (by omega)
        refine s_it1_go (h0 := h0) (so := so) t3 (by omega) (fun h4 x M4 E4 => ?_) (v3 + 1 - v2) v2 _ (by omega) (Nat.le_refl _) (by rw [sl0]; exact M3) (mE_tr E0 (mE_set (mE_set (mE_set mE_rfl (by omega)) (by omega)) (by omega)))
        refine g_goto 361 rfl rfl ?_
        refine g_iconst (n := 1) rfl ?_
        refine g_ireturn (ty := .boolean) rfl rfl (by decide) ?_
        have mz : mS (mfDo m0 (1, v1, v2, v3)) (J3, slF so (Int32.ofNat v1) v2 (v3 + 1), ow, sh, fo, va) := by
          obtain ⟨b1, b2⟩ := m0e
          obtain ⟨J0, R0⟩ := m0
          have b2 : (so, ow, sh, fo, va) = R0 := b2
          subst b2
          have es : (fun i => if v2 ≤ i ∧ i ≤ v3 then Int32.ofNat v1 else so i) = slF so (Int32.ofNat v1) v2 (v3 + 1) := funext fun i => by
            unfold slF
            by_cases c : v2 ≤ i ∧ i ≤ v3
            · rw [if_pos c, if_pos (show v2 ≤ i ∧ i < v3 + 1 by omega)]
            · rw [if_neg c, if_neg (show ¬ (v2 ≤ i ∧ i < v3 + 1) by omega)]
          refine ⟨jS_tr (jS_tr (jS_tr b1 js1) js2) js3, ?_⟩
          show (slF so (Int32.ofNat v1) v2 (v3 + 1), ow, sh, fo, va) = ((fun i => if v2 ≤ i ∧ i ≤ v3 then Int32.ofNat v1 else so i), ow, sh, fo, va)
          rw [es]
        exact ⟨rfl, _, M4, mz, k3, E4⟩
end
section
/-! ===== the reference's items: heirs; an item ===== -/
theorem s_it6_go {d : Nat} {h0 : sHp} {cl : Nat → Int64} {S n E : Nat} {T : Nat → Int32} {x1 x3 : Int32} {o6 : Option Value} (R : RT cl S n T) (hE : E < 5) (hd : 3 ≤ d) : ∀ (f k A : Nat) (h : sHp) (J so ow sh fo va : Nat → Int32) (m0 : MF), f + k = 6 → A + 3 * f < 880 → MC h (J, so, ow, sh, fo, va) → mS m0 (J, so, ow, sh, fo, va) → mE h0 h → h[71]? = some (.inl (1, 800, .inr (.inl cl))) → rtJ J S n A → sGo none 199 d 230 [some (.ref 60), some (.int x1), some (.int (Int32.ofNat 6)), some (.int x3), some (.int (Int32.ofNat E)), some (.int (Int32.ofNat k)), o6] [] h (qIm h0 m0 S n (wrtS T E f k A)) := by
  have e6 : (Int8.ofInt 6).toInt32.toInt = 6 := rfl
  have eE := ofN_toInt (n := E) (by omega)
  intro f
  induction f with
  | zero =>
    intro k A h J so ow sh fo va m0 hk hA M m0e E0 a8 hJ
    have ek := ofN_toInt (n := k) (by omega)
    refine g_iload (i := 5) rfl rfl ?_
    refine g_bipush (n := 6) rfl ?_
    refine g_icmp_ge 272 rfl rfl (fun _ => ?_) (fun hc => absurd hc (by rw [i_le, e6, ek]; omega))
    refine g_goto 361 rfl rfl ?_
    refine g_iconst (n := 1) rfl ?_
    refine g_ireturn (ty := .boolean) rfl rfl (by decide) ?_
    exact ⟨rfl, _, M, m0e, hJ, E0⟩
  | succ f ih =>
    intro k A h J so ow sh fo va m0 hk hA M m0e E0 a8 hJ
    have ek := ofN_toInt (n := k) (by omega)
    have hnx := s_next (d := 0) (lo := Int32.ofInt 0) (hi := (Int8.ofInt 99).toInt32) M.1 a8 R hJ (by omega)
    replace hnx : sDo (0 + 3) 196 [.ref 60, .int (Int32.ofInt 0), .int ((Int8.ofInt 99).toInt32)] h (qMu h J (nxtS T A 0 99)) := hnx
    unfold wrtS
    refine g_iload (i := 5) rfl rfl ?_
    refine g_bipush (n := 6) rfl ?_
    refine g_icmp_ge 272 rfl rfl (fun hc => absurd hc (by rw [i_le, e6, ek]; omega)) (fun _ => ?_)
    refine g_aload_n (i := 0) rfl rfl ?_
    refine g_iconst (n := 0) rfl ?_
    refine g_bipush (n := 99) rfl ?_
    refine g_virt2 rfl (by decide) rfl M.1 rfl (Nat.le_of_ble_eq_true rfl) (sDo_up (d := 3) (by omega) hnx) (fun r h_1 hq => ?_)
    obtain ⟨J1, rfl, js1, hq⟩ := hq
    cases hs1 : nxtS T A 0 99 with
    | none =>
      rw [hs1] at hq
      obtain rfl := hq
      refine g_if_ne 249 rfl rfl (fun hc => absurd hc (by decide)) (fun _ => ?_)
      refine g_iconst (n := 0) rfl ?_
      refine g_ireturn (ty := .boolean) rfl rfl (by decide) ?_
      exact ⟨rfl, _, MC_0 M, mE_tr E0 (mE_set mE_rfl (by omega))⟩
    | some vp =>
      obtain ⟨v1, A1⟩ := vp
      rw [hs1] at hq
      obtain ⟨rfl, t1, p1⟩ := hq
      refine g_if_ne 249 rfl rfl (fun _ => ?_) (fun hc => absurd hc (by decide))
      have nl := nxtS_le hs1
      have M1 := MC_0 (f := J1) M
      have k1 := jS_rt js1 hJ p1
      have m1 : ((Int8.ofInt 6).toInt32 * Int32.ofNat E).toInt = 6 * E := by rw [i_mul (by rw [e6, eE]; omega) (by rw [e6, eE]; omega), e6, eE]
      have m2 : ((Int8.ofInt 6).toInt32 * Int32.ofNat E + Int32.ofNat k).toInt = ((6 * E + k : Nat) : Int) := by rw [i_add (by rw [m1, ek]; omega) (by rw [m1, ek]; omega), m1, ek]; omega
      refine g_aload_n (i := 0) rfl rfl ?_
      refine g_getfield (v := .ref 66) rfl M1.1 (by decide) rfl ?_
      refine g_bipush (n := 6) rfl ?_
      refine g_iload (i := 4) rfl rfl ?_
      refine g_imul rfl ?_
      refine g_iload (i := 5) rfl rfl ?_
      refine g_iadd rfl ?_
      refine g_aload_n (i := 0) rfl rfl ?_
      refine g_getfield (v := .int (J1 24)) rfl M1.1 (by decide) rfl ?_
      rw [t1]
      refine g_iastore (h1 := (h.set 60 (mO J1)).set 66 (.inl (0, 30, .inl (upd va (6 * E + k) (Int32.ofNat v1))))) rfl M1.2.2.2.2.2 (i_in (by omega) (by omega)) (by rw [i_nat m2]) ?_
      refine g_iinc (i := 5) (L1 := [some (.ref 60), some (.int x1), some (.int (Int32.ofNat 6)), some (.int x3), some (.int (Int32.ofNat E)), some (.int ((Int32.ofNat k) + Int32.ofInt 1)), o6]) rfl rfl rfl ?_
      rw [ofN_add (by omega)]
      refine g_goto 230 rfl rfl ?_
      have mz : mS (mfDo m0 (4, E, k, v1)) (J1, so, ow, sh, fo, upd va (6 * E + k) (Int32.ofNat v1)) := by
        obtain ⟨b1, b2⟩ := m0e
        obtain ⟨J0, R0⟩ := m0
        have b2 : (so, ow, sh, fo, va) = R0 := b2
        subst b2
        exact ⟨jS_tr b1 js1, rfl⟩
      have key := ih (k + 1) A1 _ J1 so ow sh fo (upd va (6 * E + k) (Int32.ofNat v1)) (mfDo m0 (4, E, k, v1)) (by omega) (by omega) (MC_5 M1) mz (mE_tr E0 (mE_set (mE_set mE_rfl (by omega)) (by omega))) (by rw [s_set_ne (by decide), s_set_ne (by decide)]; exact a8) k1
      dsimp only
      cases hw : wrtS T E f (k + 1) A1 with
      | none => rw [hw] at key; exact key
      | some q => obtain ⟨as, p2⟩ := q; rw [hw] at key; exact key
theorem s_it6 {d : Nat} {h0 h : sHp} {J so ow sh fo va : Nat → Int32} {cl : Nat → Int64} {S n A : Nat} {T : Nat → Int32} {m0 : MF} {x1 x3 : Int32} {o4 o5 o6 : Option Value} {E : Nat} (M : MC h (J, so, ow, sh, fo, va)) (m0e : mS m0 (J, so, ow, sh, fo, va)) (E0 : mE h0 h) (a8 : h[71]? = some (.inl (1, 800, .inr (.inl cl)))) (R : RT cl S n T) (hJ : rtJ J S n (A + 1)) (hA : A < 850) (hd : 3 ≤ d) (hb : T A = 32) (hJ6 : J 6 = Int32.ofNat E) (hE : E < 5) : sGo none 199 d 56 [some (.ref 60), some (.int x1), some (.int (Int32.ofNat 6)), some (.int x3), o4, o5, o6] [] h (qIm h0 m0 S n (heiS T A E)) := by
  have hn : nxtS T A 1 9 = numS T (A + 1) 1 9 := if_pos hb
  have eE := ofN_toInt (n := E) (by omega)
  have e5 : (Int32.ofInt 5).toInt = 5 := rfl
  have hnu := s_number (d := 0) (lo := Int32.ofInt 1) (hi := (Int8.ofInt 9).toInt32) M.1 a8 R hJ (by omega)
  replace hnu : sDo (0 + 2) 195 [.ref 60, .int (Int32.ofInt 1), .int ((Int8.ofInt 9).toInt32)] h (qMu h J (numS T (A + 1) 1 9)) := hnu
  unfold heiS
  rw [hn]
  refine g_iload_n (i := 2) rfl rfl ?_
  refine g_if_ne 103 rfl rfl (fun _ => ?_) (fun hc => absurd hc (by exact fun z => absurd z (by decide)))
  refine g_iload_n (i := 2) rfl rfl ?_
  refine g_iconst (n := 1) rfl ?_
  refine g_icmp_ne 185 rfl rfl (fun _ => ?_) (fun hc => absurd hc (by exact fun z => absurd z (by decide)))
  refine g_iload_n (i := 2) rfl rfl ?_
  refine g_bipush (n := 6) rfl ?_
  refine g_icmp_ne 275 rfl rfl (fun hc => absurd hc (by exact fun z => z rfl)) (fun _ => ?_)
  refine g_aload_n (i := 0) rfl rfl ?_
  refine g_getfield (v := .int (J 6)) rfl M.1 (by decide) rfl ?_
  refine g_iconst (n := 5) rfl ?_
  refine g_icmp_ne 205 rfl rfl (fun _ => ?_) (fun hc => absurd hc (by intro z; have z : J 6 = Int32.ofInt 5 := z; rw [hJ6] at z; have z2 := congrArg Int32.toInt z; rw [eE, e5] at z2; omega))
  refine g_aload_n (i := 0) rfl rfl ?_
  refine g_iconst (n := 1) rfl ?_
  refine g_bipush (n := 9) rfl ?_
  refine g_virt2 rfl (by decide) rfl M.1 rfl (Nat.le_of_ble_eq_true rfl) (sDo_up (d := 2) (by omega) hnu) (fun r h_1 hq => ?_)
  obtain ⟨J1, rfl, js1, hq⟩ := hq
  cases hs1 : numS T (A + 1) 1 9 with
  | none =>
    rw [hs1] at hq
    obtain rfl := hq
    refine g_if_ne 217 rfl rfl (fun hc => absurd hc (by decide)) (fun _ => ?_)
    refine g_iconst (n := 0) rfl ?_
    refine g_ireturn (ty := .boolean) rfl rfl (by decide) ?_
    exact ⟨rfl, _, MC_0 M, mE_tr E0 (mE_set mE_rfl (by omega))⟩
  | some vp =>
    obtain ⟨v1, A1⟩ := vp
    rw [hs1] at hq
    obtain ⟨rfl, t1, p1⟩ := hq
    refine g_if_ne 217 rfl rfl (fun _ => ?_) (fun hc => absurd hc (by decide))
    have nl := nxtS_le (hn.trans hs1)
    have M1 := MC_0 (f := J1) M
    have k1 := jS_rt js1 hJ p1
    have j6 : J1 6 = Int32.ofNat E := (js1 6 (by decide) (by decide) (by decide)).trans hJ6
    dsimp only
    refine g_aload_n (i := 0) rfl rfl ?_
    refine g_aload_n (i := 0) rfl rfl ?_
    refine g_getfield (v := .int (J1 24)) rfl M1.1 (by decide) rfl ?_
    rw [t1]
    refine g_virt1 rfl (by decide) rfl M1.1 rfl (Nat.le_of_ble_eq_true rfl) (sDo_up (d := 1) (by omega) (s_comesE (d := 0) (p := Int32.ofNat v1) M1 j6 hE)) (fun r h_3 hq => ?_)
    obtain ⟨rfl, q1, q2⟩ := hq
    refine g_istore (i := 4) (L1 := [some (.ref 60), some (.int x1), some (.int (Int32.ofNat 6)), some (.int x3), some (.int (Int32.ofNat E)), o5, o6]) rfl (Nat.le_of_ble_eq_true rfl) rfl ?_
    refine g_iconst (n := 0) rfl ?_
    refine g_istore (i := 5) (L1 := [some (.ref 60), some (.int x1), some (.int (Int32.ofNat 6)), some (.int x3), some (.int (Int32.ofNat E)), some (.int (Int32.ofInt 0)), o6]) rfl (Nat.le_of_ble_eq_true rfl) rfl ?_
    have mz : mS (mfDo m0 (3, v1, 0, 0)) (mfHeir E (Int32.ofNat v1) (J1, so, ow, sh, fo, va)) := by
      obtain ⟨b1, b2⟩ := m0e
      obtain ⟨J0, R0⟩ := m0
      have b2 : (so, ow, sh, fo, va) = R0 := b2
      subst b2
      have j0 : (J0 6).toNatClampNeg = E := by
        have : J 6 = J0 6 := b1 6 (by decide) (by decide) (by decide)
        rw [← this, hJ6]
        exact i_nat eE
      show mS (mfHeir (J0 6).toNatClampNeg (Int32.ofNat v1) (J0, so, ow, sh, fo, va)) _
      rw [j0]
      exact ⟨jS_upd (jS_tr b1 js1), rfl⟩
    have key := s_it6_go (d := d) (x1 := x1) (x3 := x3) (o6 := o6) R hE hd 6 0 A1 h_3 _ _ _ _ _ _ (mfDo m0 (3, v1, 0, 0)) rfl (by omega) q1 mz (mE_tr E0 (mE_tr (mE_set mE_rfl (by omega)) q2)) ((q2.2 71 (by decide) (by decide)).trans (by rw [s_set_ne (by decide)]; exact a8)) ⟨k1.1, k1.2.1, k1.2.2⟩
    cases hw : wrtS T E 6 0 A1 with
    | none => rw [hw] at key; exact key
    | some q => obtain ⟨as, p2⟩ := q; rw [hw] at key; exact key
end
section
/-! ===== the reference's item ===== -/
def sgJ (J : Nat → Int32) (s : Sg) : Prop := J 0 = Int32.ofNat s.1 ∧ J 1 = Int32.ofNat s.2.1 ∧ J 6 = Int32.ofNat s.2.2 ∧ 2 ≤ s.1 ∧ s.1 ≤ 8 ∧ 2 ≤ s.2.1 ∧ s.2.1 ≤ 8 ∧ s.2.2 ≤ 5
theorem sgJ_sq {J : Nat → Int32} {s : Sg} (q : sgJ J s) : (J 0 * J 1 - Int32.ofInt 1).toInt = ((s.1 * s.2.1 : Nat) : Int) - 1 := by
  obtain ⟨q1, q2, q3, q4⟩ := q
  exact (sg_sq (c := (upd J 11 (J 6), fun _ => 0, fun _ => 0, fun _ => 0, fun _ _ => 0, fun _ => 0, fun _ => 0)) (s := s) ⟨q1, q2, q3, q4⟩).2
theorem s_itemE {d : Nat} {h : sHp} {J so ow sh fo va : Nat → Int32} {cl : Nat → Int64} {S n A : Nat} {T wd : Nat → Int32} {s : Sg} (M : MC h (J, so, ow, sh, fo, va)) (a8 : h[71]? = some (.inl (1, 800, .inr (.inl cl)))) (hw : h[73]? = some (.inl (0, 42, .inl wd))) (W : WD wd) (R : RT cl S n T) (hJ : rtJ J S n A) (hA : A < 840) (hs : sgJ J s) : sDo (d + 6) 199 [.ref 60] h (qIm h (J, so, ow, sh, fo, va) S n (itmS T A s)) := by
  have hsc := hs
  obtain ⟨q1, q2, q3, q4, q5, q6, q7, q8⟩ := hs
  have e5 : (Int32.ofInt 5).toInt = 5 := rfl
  have eE := ofN_toInt (n := s.2.2) (by omega)
  obtain ⟨if1, if2⟩ := itm_fw (T := T) (p := A) (s := s) W q8
  have rest : ¬ (alS T A 6 4 0 = 4 ∧ s.2.2 = 5) → sGo none 199 (d + 5) 27 [some (.ref 60), none, none, none, none, none, none] [] h (qIm h (J, so, ow, sh, fo, va) S n (itmS T A s)) := by
    intro hnot
    obtain ⟨in1, in2⟩ := if2 hnot
    have hwo := s_wordE (d := 0) M.1 a8 R hJ (by omega) hw W
    refine g_aload_n (i := 0) rfl rfl ?_
    refine g_getfield (v := .int (J 22)) rfl M.1 (by decide) rfl ?_
    rw [hJ.2.1]
    refine g_istore_n (i := 1) (L1 := [some (.ref 60), some (.int (Int32.ofNat A)), none, none, none, none, none]) rfl (Nat.le_of_ble_eq_true rfl) rfl ?_
    refine g_aload_n (i := 0) rfl rfl ?_
    refine g_virt0 rfl (by decide) rfl M.1 rfl (Nat.le_of_ble_eq_true rfl) (sDo_up (d := 1) (by omega) hwo) (fun r h_1 hq => ?_)
    obtain ⟨J1, rfl, js1, hq⟩ := hq
    cases hf : fwS T wd A 7 0 with
    | none =>
      rw [hf] at hq
      obtain rfl := hq
      rw [in1 hf]
      refine g_istore_n (i := 2) (L1 := [some (.ref 60), some (.int (Int32.ofNat A)), some (.int (Int32.ofInt (-1))), none, none, none, none]) rfl (Nat.le_of_ble_eq_true rfl) rfl ?_
      refine g_iload_n (i := 2) rfl rfl ?_
      refine g_iconst (n := (-1)) rfl ?_
      refine g_icmp_ne 44 rfl rfl (fun hc => absurd hc (by exact fun z => z rfl)) (fun _ => ?_)
      refine g_iconst (n := 0) rfl ?_
      refine g_ireturn (ty := .boolean) rfl rfl (by decide) ?_
      exact ⟨rfl, _, MC_0 M, mE_set mE_rfl (by omega)⟩
    | some v =>
      rw [hf] at hq
      obtain ⟨rfl, j22⟩ := hq
      obtain ⟨v7, hwd, hbl, h6⟩ := in2 v hf
      have M1 := MC_0 (f := J1) M
      have wl := wlS_le v
      have hJ1 : rtJ J1 S n (A + wlS v + 1) := jS_rt js1 hJ j22
      have evv := ofN_toInt (n := v) (by omega)
      have em1 : (Int32.ofInt (-1)).toInt = -1 := rfl
      have s1 : sgJ J1 s := ⟨(js1 0 (by decide) (by decide) (by decide)).trans q1, (js1 1 (by decide) (by decide) (by decide)).trans q2, (js1 6 (by decide) (by decide) (by decide)).trans q3, q4, q5, q6, q7, q8⟩
      have sq := sgJ_sq s1
      have sq64 := sq_le (s := s) q5 q7
      have E1 : mE h (h.set 60 (mO J1)) := mE_set mE_rfl (by omega)
      have a81 : (h.set 60 (mO J1))[71]? = some (.inl (1, 800, .inr (.inl cl))) := by rw [s_set_ne (by decide)]; exact a8
      have m01 : mS (J, so, ow, sh, fo, va) (J1, so, ow, sh, fo, va) := ⟨js1, rfl⟩
      refine g_istore_n (i := 2) (L1 := [some (.ref 60), some (.int (Int32.ofNat A)), some (.int (Int32.ofNat v)), none, none, none, none]) rfl (Nat.le_of_ble_eq_true rfl) rfl ?_
      refine g_iload_n (i := 2) rfl rfl ?_
      refine g_iconst (n := (-1)) rfl ?_
      refine g_icmp_ne 44 rfl rfl (fun _ => ?_) (fun hc => absurd hc (by intro z; rw [z, em1] at evv; omega))
      refine g_aload_n (i := 0) rfl rfl ?_
      refine g_getfield (v := .int (J1 0)) rfl M1.1 (by decide) rfl ?_
      refine g_aload_n (i := 0) rfl rfl ?_
      refine g_getfield (v := .int (J1 1)) rfl M1.1 (by decide) rfl ?_
      refine g_imul rfl ?_
      refine g_iconst (n := 1) rfl ?_
      refine g_isub rfl ?_
      refine g_istore_n (i := 3) (L1 := [some (.ref 60), some (.int (Int32.ofNat A)), some (.int (Int32.ofNat v)), some (.int (((J1 0) * (J1 1)) - (Int32.ofInt 1))), none, none, none]) rfl (Nat.le_of_ble_eq_true rfl) rfl ?_
      have x63 : (J1 0 * J1 1 - Int32.ofInt 1).toInt ≤ 63 := by omega
      match v, v7, hwd, hbl, h6, wl, hJ1 with
      | 0, _, hwd, hbl, h6, wl, hJ1 =>
        rw [show itmS T A s = sizS T (A + wlS 0) by unfold itmS; rw [hwd]; rfl]
        exact s_it0 (A := A + wlS 0) (x1 := Int32.ofNat A) (x3 := J1 0 * J1 1 - Int32.ofInt 1) (o4 := none) (o5 := none) (o6 := none) M1 m01 E1 a81 R hJ1 (by omega) (by omega) hbl
      | 1, _, hwd, hbl, h6, wl, hJ1 =>
        rw [show itmS T A s = soiS T (A + wlS 1) (((s.1 * s.2.1 : Nat) : Int) - 1) by unfold itmS; rw [hwd]; rfl]
        have k := s_it1 (d := d + 5) (A := A + wlS 1) (x1 := Int32.ofNat A) (x3 := J1 0 * J1 1 - Int32.ofInt 1) (o4 := none) (o5 := none) (o6 := none) M1 m01 E1 a81 R hJ1 (by omega) (by omega) hbl x63
        rw [sq] at k
        exact k
      | 2, _, hwd, hbl, h6, wl, hJ1 =>
        rw [show itmS T A s = plcS T (A + wlS 2) 0 0 3 by unfold itmS; rw [hwd]; rfl]
        exact s_itP (v := 2) (hi := 3) (A := A + wlS 2) (x1 := Int32.ofNat A) (x3 := J1 0 * J1 1 - Int32.ofInt 1) (o4 := none) (o5 := none) (o6 := none) M1 m01 E1 a81 R hJ1 (by omega) (by omega) hbl ⟨by decide, by decide⟩ rfl
      | 3, _, hwd, hbl, h6, wl, hJ1 =>
        rw [show itmS T A s = plcS T (A + wlS 3) 1 0 (((s.1 * s.2.1 : Nat) : Int) - 1) by unfold itmS; rw [hwd]; rfl]
        exact s_itP (v := 3) (hi := ((s.1 * s.2.1 : Nat) : Int) - 1) (A := A + wlS 3) (x1 := Int32.ofNat A) (x3 := J1 0 * J1 1 - Int32.ofInt 1) (o4 := none) (o5 := none) (o6 := none) M1 m01 E1 a81 R hJ1 (by omega) (by omega) hbl ⟨by decide, by decide⟩ sq.symm
      | 4, _, hwd, hbl, h6, wl, hJ1 =>
        rw [show itmS T A s = plcS T (A + wlS 4) 2 0 (((s.1 * s.2.1 : Nat) : Int) - 1) by unfold itmS; rw [hwd]; rfl]
        exact s_itP (v := 4) (hi := ((s.1 * s.2.1 : Nat) : Int) - 1) (A := A + wlS 4) (x1 := Int32.ofNat A) (x3 := J1 0 * J1 1 - Int32.ofInt 1) (o4 := none) (o5 := none) (o6 := none) M1 m01 E1 a81 R hJ1 (by omega) (by omega) hbl ⟨by decide, by decide⟩ sq.symm
      | 5, _, hwd, hbl, h6, wl, hJ1 =>
        rw [show itmS T A s = plcS T (A + wlS 5) 3 0 20 by unfold itmS; rw [hwd]; rfl]
        exact s_itP (v := 5) (hi := 20) (A := A + wlS 5) (x1 := Int32.ofNat A) (x3 := J1 0 * J1 1 - Int32.ofInt 1) (o4 := none) (o5 := none) (o6 := none) M1 m01 E1 a81 R hJ1 (by omega) (by omega) hbl ⟨by decide, by decide⟩ rfl
      | 6, _, hwd, hbl, h6, wl, hJ1 =>
        rw [show itmS T A s = heiS T (A + wlS 6) s.2.2 by unfold itmS; rw [hwd]; rfl]
        exact s_it6 (A := A + wlS 6) (x1 := Int32.ofNat A) (x3 := J1 0 * J1 1 - Int32.ofInt 1) (o4 := none) (o5 := none) (o6 := none) M1 m01 E1 a81 R hJ1 (by omega) (by omega) hbl s1.2.2.1 (h6 rfl)
      | k + 7, v7, _, _, _, _, _ => exact absurd v7 (by omega)
  refine sDo_of (d := d + 5) (nL := 7) (L := [some (.ref 60), none, none, none, none, none, none]) rfl rfl ?_
  refine g_aload_n (i := 0) rfl rfl ?_
  refine g_bipush (n := 6) rfl ?_
  refine g_virt1 (Qc := fun r h' => h' = h ∧ r = some (.int (if alS T A 6 4 0 = 4 then 1 else 0))) rfl (by decide) rfl M.1 rfl (Nat.le_of_ble_eq_true rfl) (sDo_up (d := 1) (by omega) (s_isWordAt (d := 0) M.1 a8 R hJ (by omega) hw W)) (fun r h9 hq => ?_)
  obtain ⟨rfl, rfl⟩ := hq
  by_cases c4 : alS T A 6 4 0 = 4
  · skip
    rw [if_pos c4]
    refine g_if_eq 27 rfl rfl (fun hc => absurd hc (by decide)) (fun _ => ?_)
    refine g_aload_n (i := 0) rfl rfl ?_
    refine g_bipush (n := 6) rfl ?_
    refine g_virt1 (Qc := fun r h' => h' = h9 ∧ r = some (.int (if J 6 = 5 then 1 else 0))) rfl (by decide) rfl M.1 rfl (Nat.le_of_ble_eq_true rfl) (sDo_up (d := 1) (by omega) (s_isWordFull (d := 0) M.1)) (fun r h8 hq => ?_)
    obtain ⟨rfl, rfl⟩ := hq
    by_cases c5 : s.2.2 = 5
    · skip
      rw [if_pos (show J 6 = 5 by rw [q3, c5]; rfl)]
      refine g_if_eq 27 rfl rfl (fun hc => absurd hc (by decide)) (fun _ => ?_)
      refine g_aload_n (i := 0) rfl rfl ?_
      refine g_aload_n (i := 0) rfl rfl ?_
      refine g_getfield (v := .int (J 22)) rfl M.1 (by decide) rfl ?_
      refine g_virt1 (Qc := fun r h' => r = some (.int 0) ∧ h' = List.set h8 60 (mO (upd J 25 (J 22)))) rfl (by decide) rfl M.1 rfl (Nat.le_of_ble_eq_true rfl) (sDo_up (d := 1) (by omega) (s_wrongE (d := 0) M.1)) (fun r h7 hq9 => ?_)
      obtain ⟨rfl, rfl⟩ := hq9
      refine g_ireturn (ty := .boolean) rfl rfl (by decide) ?_
      rw [if1 ⟨c4, c5⟩]
      exact ⟨rfl, _, MC_0 M, mE_set mE_rfl (by omega)⟩
    · skip
      rw [if_neg (show ¬ J 6 = 5 from fun z => by rw [q3] at z; have z2 := congrArg Int32.toInt z; rw [eE] at z2; exact c5 (by have : ((5 : Int32)).toInt = 5 := rfl; omega))]
      refine g_if_eq 27 rfl rfl (fun _ => ?_) (fun hc => absurd hc (by decide))
      exact rest (fun z => c5 z.2)
  · skip
    rw [if_neg c4]
    refine g_if_eq 27 rfl rfl (fun _ => ?_) (fun hc => absurd hc (by decide))
    exact rest (fun z => c4 z.1)
end
section
/-! ===== the reference's items: the ints they leave ===== -/
theorem mS_do {m m' : MF} (q : mS m m') (a : Act) : mS (mfDo m a) (mfDo m' a) := by
  obtain ⟨J, R⟩ := m
  obtain ⟨J', R'⟩ := m'
  obtain ⟨q1, q2⟩ := q
  have q2 : R' = R := q2
  subst q2
  obtain ⟨k, x, y, z⟩ := a
  match k with
  | 0 => exact ⟨jS_upd (jS_upd (jS_upd (jS_upd q1))), rfl⟩
  | 1 => exact ⟨q1, rfl⟩
  | 2 => exact ⟨jS_upd q1, rfl⟩
  | 3 =>
    have e : J' 6 = J 6 := q1 6 (by decide) (by decide) (by decide)
    show mS (mfHeir (J 6).toNatClampNeg (Int32.ofNat x) (J, R')) (mfHeir (J' 6).toNatClampNeg (Int32.ofNat x) (J', R'))
    rw [e]
    exact ⟨jS_upd q1, rfl⟩
  | k + 4 => exact ⟨q1, rfl⟩
theorem mS_dos {m m' : MF} (q : mS m m') : ∀ as : List Act, mS (as.foldl mfDo m) (as.foldl mfDo m') := by
  intro as
  induction as generalizing m m' with
  | nil => exact q
  | cons a as ih => exact ih (mS_do q a)
theorem mS_tr {m m1 m2 : MF} (a : mS m m1) (b : mS m1 m2) : mS m m2 := ⟨jS_tr a.1 b.1, b.2.trans a.2⟩
theorem sgJ_S {J J' : Nat → Int32} {s : Sg} (a : jS J J') (q : sgJ J s) : sgJ J' s := ⟨(a 0 (by decide) (by decide) (by decide)).trans q.1, (a 1 (by decide) (by decide) (by decide)).trans q.2.1, (a 6 (by decide) (by decide) (by decide)).trans q.2.2.1, q.2.2.2⟩
theorem sgm_wrt {T : Nat → Int32} {E : Nat} : ∀ {f v p : Nat} {as : List Act} {p2 : Nat} {m : MF} {s : Sg}, wrtS T E f v p = some (as, p2) → sgJ m.1 s → sgJ (as.foldl mfDo m).1 (as.foldl sgDo s) ∧ p ≤ p2 ∧ p2 ≤ p + 3 * f := by
  intro f
  induction f with
  | zero =>
    intro v p as p2 m s h q
    cases h
    exact ⟨q, Nat.le_refl _, Nat.le_refl _⟩
  | succ f ih =>
    intro v p as p2 m s h q
    unfold wrtS at h
    cases h1 : nxtS T p 0 99 with
    | none => rw [h1] at h; cases h
    | some vp =>
      obtain ⟨x, p'⟩ := vp
      have b := nxtS_le h1
      rw [h1] at h
      dsimp only at h
      cases h2 : wrtS T E f (v + 1) p' with
      | none => rw [h2] at h; cases h
      | some q2 =>
        obtain ⟨bs, p3⟩ := q2
        rw [h2] at h
        cases h
        have k := ih (m := mfDo m (4, E, v, x)) (s := sgDo s (4, E, v, x)) h2 q
        exact ⟨k.1, by omega, by omega⟩
theorem sgm_itm {T : Nat → Int32} {p p2 : Nat} {as : List Act} {m : MF} {s : Sg} (h : itmS T p s = some (as, p2)) (q : sgJ m.1 s) : sgJ (as.foldl mfDo m).1 (as.foldl sgDo s) ∧ p + 1 ≤ p2 ∧ p2 ≤ p + 40 := by
  have q' := q
  obtain ⟨q1, q2, q3, q4, q5, q6, q7, q8⟩ := q'
  have plc : ∀ {p1 k : Nat} {lo hi : Int}, k ≤ 3 → plcS T p1 k lo hi = some (as, p2) → sgJ (as.foldl mfDo m).1 (as.foldl sgDo s) ∧ p1 + 1 ≤ p2 ∧ p2 ≤ p1 + 3 := by
    intro p1 k lo hi hk h
    unfold plcS at h
    cases h1 : nxtS T p1 lo hi with
    | none => rw [h1] at h; cases h
    | some vp =>
      obtain ⟨x, p'⟩ := vp
      have b := nxtS_le h1
      rw [h1] at h
      cases h
      exact ⟨⟨(u_ne (show (0 : Nat) ≠ 2 + k by omega)).trans q1, (u_ne (show (1 : Nat) ≠ 2 + k by omega)).trans q2, (u_ne (show (6 : Nat) ≠ 2 + k by omega)).trans q3, q4, q5, q6, q7, q8⟩, by omega, by omega⟩
  unfold itmS at h
  cases hw : wdS T p (if s.2.2 < 5 then 7 else 6) 0 with
  | none => rw [hw] at h; cases h
  | some v =>
    rw [hw] at h
    have vl := wdS_lt hw
    have wl := wlS_le v
    have v7 : v < 7 := by
      by_cases c5 : s.2.2 < 5
      · rw [if_pos c5] at vl; omega
      · rw [if_neg c5] at vl; omega
    have h6 : v = 6 → s.2.2 < 5 := fun z => by
      by_cases c5 : s.2.2 < 5
      · exact c5
      · rw [if_neg c5] at vl; omega
    match v, v7, wl, h6, h with
    | 0, _, wl, _, h =>
      have h : sizS T (p + wlS 0) = some (as, p2) := h
      unfold sizS at h
      cases h1 : nxtS T (p + wlS 0) 2 8 with
      | none => rw [h1] at h; cases h
      | some vp =>
        obtain ⟨x, p'⟩ := vp
        have b := nxtS_le h1
        rw [h1] at h
        dsimp only at h
        cases h2 : nxtS T p' 2 8 with
        | none => rw [h2] at h; cases h
        | some vp2 =>
          obtain ⟨y, p3⟩ := vp2
          have b2 := nxtS_le h2
          rw [h2] at h
          cases h
          exact ⟨⟨rfl, rfl, q3, show 2 ≤ x by omega, show x ≤ 8 by omega, show 2 ≤ y by omega, show y ≤ 8 by omega, q8⟩, by omega, by omega⟩
    | 1, _, wl, _, h =>
      have h : soiS T (p + wlS 1) (((s.1 * s.2.1 : Nat) : Int) - 1) = some (as, p2) := h
      unfold soiS at h
      cases h1 : nxtS T (p + wlS 1) 0 5 with
      | none => rw [h1] at h; cases h
      | some vp =>
        obtain ⟨x, p'⟩ := vp
        have b := nxtS_le h1
        rw [h1] at h
        dsimp only at h
        cases h2 : nxtS T p' 0 (((s.1 * s.2.1 : Nat) : Int) - 1) with
        | none => rw [h2] at h; cases h
        | some vp2 =>
          obtain ⟨y, p3⟩ := vp2
          have b2 := nxtS_le h2
          rw [h2] at h
          dsimp only at h
          cases h3 : nxtS T p3 y (((s.1 * s.2.1 : Nat) : Int) - 1) with
          | none => rw [h3] at h; cases h
          | some vp3 =>
            obtain ⟨z, p4⟩ := vp3
            have b3 := nxtS_le h3
            rw [h3] at h
            cases h
            exact ⟨q, by omega, by omega⟩
    | 2, _, wl, _, h => have k := plc (by decide) h; exact ⟨k.1, by omega, by omega⟩
    | 3, _, wl, _, h => have k := plc (by decide) h; exact ⟨k.1, by omega, by omega⟩
    | 4, _, wl, _, h => have k := plc (by decide) h; exact ⟨k.1, by omega, by omega⟩
    | 5, _, wl, _, h => have k := plc (by decide) h; exact ⟨k.1, by omega, by omega⟩
    | 6, _, wl, h6, h =>
      have h5 := h6 rfl
      have h : heiS T (p + wlS 6) s.2.2 = some (as, p2) := h
      unfold heiS at h
      cases h1 : nxtS T (p + wlS 6) 1 9 with
      | none => rw [h1] at h; cases h
      | some vp =>
        obtain ⟨x, p'⟩ := vp
        have b := nxtS_le h1
        rw [h1] at h
        dsimp only at h
        cases h2 : wrtS T s.2.2 6 0 p' with
        | none => rw [h2] at h; cases h
        | some vp2 =>
          obtain ⟨bs, p3⟩ := vp2
          rw [h2] at h
          cases h
          have hcl : (m.1 6).toNatClampNeg = s.2.2 := by rw [q3]; exact i_nat (ofN_toInt (by omega))
          have k := sgm_wrt (m := mfDo m (3, x, 0, 0)) (s := sgDo s (3, x, 0, 0)) h2 ⟨q1, q2, show Int32.ofNat ((m.1 6).toNatClampNeg + 1) = Int32.ofNat (s.2.2 + 1) by rw [hcl], q4, q5, q6, q7, show s.2.2 + 1 ≤ 5 by omega⟩
          exact ⟨k.1, by omega, by omega⟩
    | k + 7, v7, _, _, _ => exact absurd v7 (by omega)
end
section
/-! ===== the reference's field: the items ===== -/
def qFl (h0 : sHp) (m0 : MF) (K : Nat) (q : Option (Nat × List Act)) (h' : sHp) (goes : Int32) (K' : Nat) : Prop := ∃ m', MC h' m' ∧ mE h0 h' ∧ (match q with
  | some (k, as) => goes = 1 ∧ K' + 1 = K + k ∧ mS (as.foldl mfDo m0) m'
  | none => goes = 0)
theorem s_fld_go {d : Nat} {h0 : sHp} {cl : Nat → Int64} {S n : Nat} {T wd : Nat → Int32} {x1 x2 : Int32} {Q : Option Value → sHp → Prop} (W : WD wd) (R : RT cl S n T) (hd : 6 ≤ d) (w0 : h0[73]? = some (.inl (0, 42, .inl wd))) (a0 : h0[71]? = some (.inl (1, 800, .inr (.inl cl)))) : ∀ (f A K : Nat) (h : sHp) (m0 m : MF) (s : Sg) (o4 : Option Value) (pc : Nat), (pc = 56 ∨ pc = 124) → n < A + f → A ≤ n → K ≤ A + 1 → MC h m → mS m0 m → mE h0 h → rtJ m.1 S n A → sgJ m.1 s → (∀ (h' : sHp) (goes : Int32) (K' : Nat), K' ≤ 200 → qFl h0 m0 K (itsS T n f s A) h' goes K' → sGo none 202 d 133 [some (.ref 60), some (.int x1), some (.int x2), some (.int (Int32.ofNat K')), some (.int goes)] [] h' Q) → sGo none 202 d pc [some (.ref 60), some (.int x1), some (.int x2), some (.int (Int32.ofNat K)), o4] [] h Q := by
  obtain ⟨R1, R2, R3, R4⟩ := id R
  have en := ofN_toInt (n := n) (by omega)
  intro f
  induction f with
  | zero => intro A K h m0 m s o4 pc hpc hl hA; omega
  | succ f ih =>
    intro A K h m0 m s o4 pc hpc hl hA hK M m0e E hJ hs hQ
    obtain ⟨J, so, ow, sh, fo, va⟩ := m
    have a8 := (E.2 71 (by decide) (by decide)).trans a0
    have hit := s_itemE (d := 0) (T := T) (wd := wd) M a8 ((E.2 73 (by decide) (by decide)).trans w0) W R hJ (by omega) hs
    unfold itsS at hQ
    have go60 : ∀ (r : Option Value) (h1 : sHp), qIm h (J, so, ow, sh, fo, va) S n (itmS T A s) r h1 → sGo none 202 d 62 [some (.ref 60), some (.int x1), some (.int x2), some (.int (Int32.ofNat K)), r] [] h1 Q := by
      intro r h1 hq
      cases hi : itmS T A s with
      | none =>
        rw [hi] at hq hQ
        obtain ⟨rfl, m', M', E'⟩ := hq
        refine g_iload (i := 4) rfl rfl ?_
        refine g_if_eq 133 rfl rfl (fun _ => ?_) (fun hc => absurd hc (by exact fun z => z rfl))
        exact hQ h1 0 K (by omega) ⟨m', M', mE_tr E E', rfl⟩
      | some q =>
        obtain ⟨as, A1⟩ := q
        rw [hi] at hq hQ
        obtain ⟨rfl, m', M', ms', rt', E'⟩ := hq
        have sg := sgm_itm (m := (J, so, ow, sh, fo, va)) hi hs
        have E1 := mE_tr E E'
        have a81 := (E1.2 71 (by decide) (by decide)).trans a0
        have eA1 := ofN_toInt (n := A1) (by omega)
        have ms1 : mS (List.foldl mfDo m0 as) m' := mS_tr (mS_dos m0e as) ms'
        have s1 := sgJ_S ms'.1 sg.1
        obtain ⟨j21, j22, j23⟩ := id rt'
        dsimp only at hQ
        refine g_iload (i := 4) rfl rfl ?_
        refine g_if_eq 133 rfl rfl (fun hc => absurd hc (by decide)) (fun _ => ?_)
        refine g_aload_n (i := 0) rfl rfl ?_
        refine g_getfield (v := .int (m'.1 22)) rfl M'.1 (by decide) rfl ?_
        refine g_aload_n (i := 0) rfl rfl ?_
        refine g_getfield (v := .int (m'.1 23)) rfl M'.1 (by decide) rfl ?_
        refine g_icmp_ge 133 rfl rfl (fun c1 => ?_) (fun c1 => ?_)
        · skip
          rw [j22, j23, i_le, en, eA1] at c1
          rw [if_pos (show n ≤ A1 by omega)] at hQ
          exact hQ h1 1 K (by omega) ⟨m', M', E1, rfl, rfl, ms1⟩
        · skip
          rw [j22, j23, i_le, en, eA1] at c1
          rw [if_neg (show ¬ n ≤ A1 by omega)] at hQ
          have eb : (Int32.ofNat (100 * S)).toInt = ((100 * S : Nat) : Int) := Int32.toInt_ofNat_of_lt (by omega)
          have eba : (Int32.ofNat (100 * S) + Int32.ofNat A1).toInt = ((100 * S + A1 : Nat) : Int) := by rw [i_add (by rw [eb, eA1]; omega) (by rw [eb, eA1]; omega), eb, eA1]; omega
          refine g_aload_n (i := 0) rfl rfl ?_
          refine g_getfield (v := .ref 71) rfl M'.1 (by decide) rfl ?_
          refine g_aload_n (i := 0) rfl rfl ?_
          refine g_getfield (v := .int (m'.1 21)) rfl M'.1 (by decide) rfl ?_
          refine g_aload_n (i := 0) rfl rfl ?_
          refine g_getfield (v := .int (m'.1 22)) rfl M'.1 (by decide) rfl ?_
          refine g_iadd rfl ?_
          rw [j21, j22]
          refine g_laload (n := 800) (f := cl) rfl a81 (i_in (by omega) (by omega)) ?_
          rw [i_nat eba]
          refine g_l2i rfl ?_
          rw [R3 A1 (by omega)]
          refine g_bipush (n := 59) rfl ?_
          refine g_icmp_eq 111 rfl rfl (fun c2 => ?_) (fun c2 => ?_)
          · skip
            rw [if_pos (show T A1 = 59 from c2)] at hQ
            refine g_aload_n (i := 0) rfl rfl ?_
            refine g_dup rfl rfl ?_
            refine g_getfield (v := .int (m'.1 22)) rfl M'.1 (by decide) rfl ?_
            refine g_iconst (n := 1) rfl ?_
            refine g_iadd rfl ?_
            rw [j22, ofN_add (by omega)]
            refine g_putfield (h1 := h1.set 60 (mO (upd m'.1 22 (Int32.ofNat (A1 + 1))))) rfl M'.1 (by decide) (Nat.le_of_ble_eq_true rfl) rfl rfl ?_
            refine g_iinc (i := 3) (L1 := [some (.ref 60), some (.int x1), some (.int x2), some (.int ((Int32.ofNat K) + Int32.ofInt 1)), some (.int 1)]) rfl rfl rfl ?_
            rw [ofN_add (by omega)]
            refine ih (A1 + 1) (K + 1) _ (List.foldl mfDo m0 as) (upd m'.1 22 (Int32.ofNat (A1 + 1)), m'.2) _ (some (.int 1)) 124 (Or.inr rfl) (by omega) (by omega) (by omega) (MC_0 M') ⟨jS_up ms1.1 (by omega), ms1.2⟩ (mE_set E1 (by omega)) ⟨j21, rfl, j23⟩ (sgJ_S (jS_up (jS_rfl _) (by omega)) s1) (fun h2 goes K' hk' hq' => hQ h2 goes K' hk' ?_)
            obtain ⟨m2, M2, E2, hq'⟩ := hq'
            refine ⟨m2, M2, E2, ?_⟩
            cases hz : itsS T n f (List.foldl sgDo s as) (A1 + 1) with
            | none => rw [hz] at hq'; exact hq'
            | some kb =>
              obtain ⟨k, bs⟩ := kb
              rw [hz] at hq'
              dsimp only at hq' ⊢
              rw [List.foldl_append]
              exact ⟨hq'.1, by omega, hq'.2.2⟩
          · skip
            rw [if_neg (show ¬ T A1 = 59 from c2)] at hQ
            refine g_aload_n (i := 0) rfl rfl ?_
            refine g_aload_n (i := 0) rfl rfl ?_
            refine g_getfield (v := .int (m'.1 22)) rfl M'.1 (by decide) rfl ?_
            refine g_virt1 (Qc := fun r h' => r = some (.int 0) ∧ h' = h1.set 60 (mO (upd m'.1 25 (m'.1 22)))) rfl (by decide) rfl M'.1 rfl (Nat.le_of_ble_eq_true rfl) (sDo_up (d := 1) (by omega) (s_wrongE (d := 0) M'.1)) (fun r h9 hq9 => ?_)
            obtain ⟨rfl, rfl⟩ := hq9
            refine g_istore (i := 4) (L1 := [some (.ref 60), some (.int x1), some (.int x2), some (.int (Int32.ofNat K)), some (.int 0)]) rfl (Nat.le_of_ble_eq_true rfl) rfl ?_
            refine g_goto 62 rfl rfl ?_
            refine g_iload (i := 4) rfl rfl ?_
            refine g_if_eq 133 rfl rfl (fun _ => ?_) (fun hc => absurd hc (by exact fun z => z rfl))
            exact hQ _ 0 K (by omega) ⟨_, MC_0 M', mE_set E1 (by omega), rfl⟩
    rcases hpc with rfl | rfl
    · skip
      refine g_aload_n (i := 0) rfl rfl ?_
      refine g_virt0 rfl (by decide) rfl M.1 rfl (Nat.le_of_ble_eq_true rfl) (sDo_up (d := 6) (by omega) hit) (fun r h1 hq => ?_)
      have key := go60 r h1 hq
      have hb : r = some (.int 0) ∨ r = some (.int 1) := by
        unfold qIm at hq
        split at hq
        · exact Or.inr hq.1
        · exact Or.inl hq.1
      rcases hb with rfl | rfl
      · skip
        refine g_istore (i := 4) (L1 := [some (.ref 60), some (.int x1), some (.int x2), some (.int (Int32.ofNat K)), some (.int 0)]) rfl (Nat.le_of_ble_eq_true rfl) rfl ?_
        exact key
      · skip
        refine g_istore (i := 4) (L1 := [some (.ref 60), some (.int x1), some (.int x2), some (.int (Int32.ofNat K)), some (.int 1)]) rfl (Nat.le_of_ble_eq_true rfl) rfl ?_
        exact key
    · skip
      refine g_aload_n (i := 0) rfl rfl ?_
      refine g_virt0 rfl (by decide) rfl M.1 rfl (Nat.le_of_ble_eq_true rfl) (sDo_up (d := 6) (by omega) hit) (fun r h1 hq => ?_)
      have key := go60 r h1 hq
      have hb : r = some (.int 0) ∨ r = some (.int 1) := by
        unfold qIm at hq
        split at hq
        · exact Or.inr hq.1
        · exact Or.inl hq.1
      rcases hb with rfl | rfl
      · skip
        refine g_istore (i := 4) (L1 := [some (.ref 60), some (.int x1), some (.int x2), some (.int (Int32.ofNat K)), some (.int 0)]) rfl (Nat.le_of_ble_eq_true rfl) rfl ?_
        refine g_goto 62 rfl rfl ?_
        exact key
      · skip
        refine g_istore (i := 4) (L1 := [some (.ref 60), some (.int x1), some (.int x2), some (.int (Int32.ofNat K)), some (.int 1)]) rfl (Nat.le_of_ble_eq_true rfl) rfl ?_
        refine g_goto 62 rfl rfl ?_
        exact key
end
section
/-! ===== the reference's field kept and brought back, exactly ===== -/
def mL (J : Nat → Int32) : List Value := match mO J with
  | .inr (_, l) => l
  | _ => []
theorem mB_of {h : sHp} {m : MF} {K : Nat} {g : Nat → Int32} (M : MC h m) (hK : h[K]? = some (.inl (0, 180, .inl g))) (h6 : 66 < K) : bBk h K (mL m.1) m.2.1 m.2.2.1 m.2.2.2.1 m.2.2.2.2.1 m.2.2.2.2.2 g := by
  obtain ⟨a0, a1, a2, a3, a4, a5⟩ := M
  exact ⟨a0, a1, a2, a3, a4, a5, hK, h6, rfl, rfl, rfl, rfl, rfl, Nat.le_of_ble_eq_true rfl⟩
def svF (m : MF) (g : Nat → Int32) : Nat → Int32 := gS7 (gS m.2.1 m.2.2.1 m.2.2.2.1 m.2.2.2.2.1 m.2.2.2.2.2 g) (m.1 0) (m.1 1) (m.1 2) (m.1 3) (m.1 4) (m.1 5) (m.1 6)
theorem s_saveE {d : Nat} {h : sHp} {m : MF} {K : Nat} {g : Nat → Int32} (M : MC h m) (hK : h[K]? = some (.inl (0, 180, .inl g))) (h6 : 66 < K) : sDo (d + 2) 201 [.ref 60, .ref K, .int 0] h (fun r h' => r = none ∧ h' = h.set K (.inl (0, 180, .inl (svF m g)))) :=
  s_all_save (mB_of M hK h6) rfl rfl rfl rfl rfl rfl rfl ⟨rfl, rfl⟩
def bkJ (J g : Nat → Int32) : Nat → Int32 := upd (upd (upd (upd (upd (upd (upd J 0 (g 168)) 1 (g 169)) 2 (g 170)) 3 (g 171)) 4 (g 172)) 5 (g 173)) 6 (g 174)
def mfBack (m : MF) (g : Nat → Int32) : MF := (bkJ m.1 g, kb m.2.1 g 0 64, kb m.2.2.1 g 64 64, kb m.2.2.2.1 g 128 5, kb m.2.2.2.2.1 g 133 5, kb m.2.2.2.2.2 g 138 30)
theorem s_backE {d : Nat} {h : sHp} {m : MF} {K : Nat} {g : Nat → Int32} (M : MC h m) (hK : h[K]? = some (.inl (0, 180, .inl g))) (h6 : 66 < K) : sDo (d + 2) 201 [.ref 60, .ref K, .int 1] h (fun r h' => r = none ∧ MC h' (mfBack m g) ∧ mE h h') := by
  refine s_all_back (by decide) (mB_of M hK h6) ⟨rfl, ?_, ?_⟩
  · exact MC_0 (f := bkJ m.1 g) (MC_5 (f := kb m.2.2.2.2.2 g 138 30) (MC_4 (f := kb m.2.2.2.2.1 g 133 5) (MC_3 (f := kb m.2.2.2.1 g 128 5) (MC_2 (f := kb m.2.2.1 g 64 64) (MC_1 (f := kb m.2.1 g 0 64) M)))))
  · exact mE_set (mE_set (mE_set (mE_set (mE_set (mE_set mE_rfl (by omega)) (by omega)) (by omega)) (by omega)) (by omega)) (by omega)
/-- the ints kept come back -/
theorem bk_sv {m m' : MF} {g : Nat → Int32} : ∀ j, j < 7 → (mfBack m' (svF m g)).1 j = m.1 j := by
  intro j hj
  match j, hj with
  | 0, _ => rfl
  | 1, _ => rfl
  | 2, _ => rfl
  | 3, _ => rfl
  | 4, _ => rfl
  | 5, _ => rfl
  | 6, _ => rfl
  | k + 7, hj => exact absurd hj (by omega)
end
section
/-! ===== the reference: size, heir, image, restore ===== -/
theorem MC_61 {h : sHp} {m : MF} {x : va_E} (M : MC h m) : MC (h.set 61 x) m := by
  obtain ⟨a0, a1, a2, a3, a4, a5⟩ := M
  exact ⟨by rw [s_set_ne (by decide)]; exact a0, by rw [s_set_ne (by decide)]; exact a1, by rw [s_set_ne (by decide)]; exact a2, by rw [s_set_ne (by decide)]; exact a3, by rw [s_set_ne (by decide)]; exact a4, by rw [s_set_ne (by decide)]; exact a5⟩
def okSz (x y : Int32) : Prop := 2 ≤ x.toInt ∧ x.toInt ≤ 8 ∧ 2 ≤ y.toInt ∧ y.toInt ≤ 8
theorem s_size12 {h : sHp} {m : MF} {x y : Int32} (hH : bH h) (M : MC h m) : sDo 10 204 [.ref 60, .int x, .int y] h (fun r h' => (okSz x y ∧ r = some (.int 1) ∧ MC h' (mfSize x y m)) ∨ (¬ okSz x y ∧ r = some (.int (-6)) ∧ MC h' m)) := by
  have e2 : (Int32.ofInt 2).toInt = 2 := rfl
  have e8 : (Int8.ofInt 8).toInt32.toInt = 8 := rfl
  unfold okSz
  refine sDo_of (d := 9) (nL := 3) (L := [some (.ref 60), some (.int x), some (.int y)]) rfl rfl ?_
  refine g_iload_n (i := 1) rfl rfl ?_
  refine g_iconst (n := 2) rfl ?_
  refine g_icmp_lt 22 rfl rfl (fun c1 => ?_) (fun c1 => ?_)
  · skip
    rw [i_lt, e2] at c1
    refine g_aload_n (i := 0) rfl rfl ?_
    refine g_bipush (n := (-6)) rfl ?_
    refine g_virt1 (Qc := fun r h' => r = some (.int (-6)) ∧ ∃ R, h' = List.set h 61 (.inl (0, 8, .inl R))) rfl (by decide) rfl M.1 rfl (Nat.le_of_ble_eq_true rfl) (sDo_up (d := 1) (by omega) (s_no (d := 0) hH (by decide) (by decide))) (fun r h8 hq9 => ?_)
    obtain ⟨rfl, R, rfl⟩ := hq9
    refine g_ireturn (ty := .int) rfl rfl rfl ?_
    exact Or.inr ⟨by omega, rfl, MC_61 M⟩
  · skip
    rw [i_lt, e2] at c1
    refine g_iload_n (i := 1) rfl rfl ?_
    refine g_bipush (n := 8) rfl ?_
    refine g_icmp_gt 22 rfl rfl (fun c2 => ?_) (fun c2 => ?_)
    · skip
      rw [i_lt, e8] at c2
      refine g_aload_n (i := 0) rfl rfl ?_
      refine g_bipush (n := (-6)) rfl ?_
      refine g_virt1 (Qc := fun r h' => r = some (.int (-6)) ∧ ∃ R, h' = List.set h 61 (.inl (0, 8, .inl R))) rfl (by decide) rfl M.1 rfl (Nat.le_of_ble_eq_true rfl) (sDo_up (d := 1) (by omega) (s_no (d := 0) hH (by decide) (by decide))) (fun r h8 hq9 => ?_)
      obtain ⟨rfl, R, rfl⟩ := hq9
      refine g_ireturn (ty := .int) rfl rfl rfl ?_
      exact Or.inr ⟨by omega, rfl, MC_61 M⟩
    · skip
      rw [i_lt, e8] at c2
      refine g_iload_n (i := 2) rfl rfl ?_
      refine g_iconst (n := 2) rfl ?_
      refine g_icmp_lt 22 rfl rfl (fun c3 => ?_) (fun c3 => ?_)
      · skip
        rw [i_lt, e2] at c3
        refine g_aload_n (i := 0) rfl rfl ?_
        refine g_bipush (n := (-6)) rfl ?_
        refine g_virt1 (Qc := fun r h' => r = some (.int (-6)) ∧ ∃ R, h' = List.set h 61 (.inl (0, 8, .inl R))) rfl (by decide) rfl M.1 rfl (Nat.le_of_ble_eq_true rfl) (sDo_up (d := 1) (by omega) (s_no (d := 0) hH (by decide) (by decide))) (fun r h8 hq9 => ?_)
        obtain ⟨rfl, R, rfl⟩ := hq9
        refine g_ireturn (ty := .int) rfl rfl rfl ?_
        exact Or.inr ⟨by omega, rfl, MC_61 M⟩
      · skip
        rw [i_lt, e2] at c3
        refine g_iload_n (i := 2) rfl rfl ?_
        refine g_bipush (n := 8) rfl ?_
        refine g_icmp_le 29 rfl rfl (fun c4 => ?_) (fun c4 => ?_)
        · skip
          rw [i_le, e8] at c4
          refine g_aload_n (i := 0) rfl rfl ?_
          refine g_iload_n (i := 1) rfl rfl ?_
          refine g_iload_n (i := 2) rfl rfl ?_
          refine g_virt2 rfl (by decide) rfl M.1 rfl (Nat.le_of_ble_eq_true rfl) (sDo_up (d := 1) (by omega) (s_sizes (d := 0) (x := x) (y := y) M)) (fun r h8 hq => ?_)
          obtain ⟨rfl, q1, q2⟩ := hq
          refine g_iconst (n := 1) rfl ?_
          refine g_ireturn (ty := .int) rfl rfl rfl ?_
          exact Or.inl ⟨by omega, rfl, q1⟩
        · skip
          rw [i_le, e8] at c4
          refine g_aload_n (i := 0) rfl rfl ?_
          refine g_bipush (n := (-6)) rfl ?_
          refine g_virt1 (Qc := fun r h' => r = some (.int (-6)) ∧ ∃ R, h' = List.set h 61 (.inl (0, 8, .inl R))) rfl (by decide) rfl M.1 rfl (Nat.le_of_ble_eq_true rfl) (sDo_up (d := 1) (by omega) (s_no (d := 0) hH (by decide) (by decide))) (fun r h8 hq9 => ?_)
          obtain ⟨rfl, R, rfl⟩ := hq9
          refine g_ireturn (ty := .int) rfl rfl rfl ?_
          exact Or.inr ⟨by omega, rfl, MC_61 M⟩
theorem s_image12 {h : sHp} {m : MF} {g : Nat → Int32} (M : MC h m) (hg : h[75]? = some (.inl (0, 180, .inl g))) : sDo 10 254 [.ref 60] h (fun r h' => r = some (.int (m.1 6)) ∧ MC h' (upd m.1 37 (Int32.ofInt 1), m.2) ∧ h'[75]? = some (.inl (0, 180, .inl (svF m g)))) := by
  refine sDo_of (d := 9) (nL := 1) (L := [some (.ref 60)]) rfl rfl ?_
  have M1 := MC_0 (f := upd m.1 37 (Int32.ofInt 1)) M
  refine g_aload_n (i := 0) rfl rfl ?_
  refine g_iconst (n := 1) rfl ?_
  refine g_putfield (h1 := h.set 60 (mO (upd m.1 37 (Int32.ofInt 1)))) rfl M.1 (by decide) (Nat.le_of_ble_eq_true rfl) rfl rfl ?_
  refine g_aload_n (i := 0) rfl rfl ?_
  refine g_aload_n (i := 0) rfl rfl ?_
  refine g_getfield (v := .ref 75) rfl M1.1 (by decide) rfl ?_
  refine g_iconst (n := 0) rfl ?_
  have g1 : (h.set 60 (mO (upd m.1 37 (Int32.ofInt 1))))[75]? = some (.inl (0, 180, .inl g)) := by rw [s_set_ne (by decide)]; exact hg
  have M2 : MC ((h.set 60 (mO (upd m.1 37 (Int32.ofInt 1)))).set 75 (.inl (0, 180, .inl (svF m g)))) (upd m.1 37 (Int32.ofInt 1), m.2) := by
    obtain ⟨a0, a1, a2, a3, a4, a5⟩ := M1
    exact ⟨by rw [s_set_ne (by decide)]; exact a0, by rw [s_set_ne (by decide)]; exact a1, by rw [s_set_ne (by decide)]; exact a2, by rw [s_set_ne (by decide)]; exact a3, by rw [s_set_ne (by decide)]; exact a4, by rw [s_set_ne (by decide)]; exact a5⟩
  refine g_virt2 (Qc := fun r h' => r = none ∧ h' = (h.set 60 (mO (upd m.1 37 (Int32.ofInt 1)))).set 75 (.inl (0, 180, .inl (svF m g)))) rfl (by decide) rfl M1.1 rfl (Nat.le_of_ble_eq_true rfl) (sDo_up (d := 2) (by omega) (s_saveE (d := 0) (m := (upd m.1 37 (Int32.ofInt 1), m.2)) M1 g1 (by decide))) (fun r h8 hq => ?_)
  obtain ⟨rfl, rfl⟩ := hq
  refine g_aload_n (i := 0) rfl rfl ?_
  refine g_getfield (v := .int ((upd m.1 37 (Int32.ofInt 1)) 6)) rfl M2.1 (by decide) rfl ?_
  refine g_ireturn (ty := .int) rfl rfl rfl ?_
  exact ⟨rfl, M2, s_set_eq g1⟩
theorem s_restore12 {h : sHp} {m : MF} {g : Nat → Int32} (hH : bH h) (M : MC h m) (hg : h[75]? = some (.inl (0, 180, .inl g))) : sDo 10 255 [.ref 60] h (fun r h' => (m.1 37 = 0 ∧ r = some (.int (-6)) ∧ MC h' m ∧ h'[75]? = some (.inl (0, 180, .inl g))) ∨ (¬ m.1 37 = 0 ∧ r = some (.int (g 174)) ∧ MC h' (mfBack m g) ∧ h'[75]? = some (.inl (0, 180, .inl g)))) := by
  refine sDo_of (d := 9) (nL := 1) (L := [some (.ref 60)]) rfl rfl ?_
  refine g_aload_n (i := 0) rfl rfl ?_
  refine g_getfield (v := .int (m.1 37)) rfl M.1 (by decide) rfl ?_
  refine g_if_ne 14 rfl rfl (fun c1 => ?_) (fun c1 => ?_)
  · skip
    refine g_aload_n (i := 0) rfl rfl ?_
    refine g_aload_n (i := 0) rfl rfl ?_
    refine g_getfield (v := .ref 75) rfl M.1 (by decide) rfl ?_
    refine g_iconst (n := 1) rfl ?_
    refine g_virt2 rfl (by decide) rfl M.1 rfl (Nat.le_of_ble_eq_true rfl) (sDo_up (d := 2) (by omega) (s_backE (d := 0) M hg (by decide))) (fun r h8 hq => ?_)
    obtain ⟨rfl, q1, q2⟩ := hq
    refine g_aload_n (i := 0) rfl rfl ?_
    refine g_getfield (v := .int ((mfBack m g).1 6)) rfl q1.1 (by decide) rfl ?_
    refine g_ireturn (ty := .int) rfl rfl rfl ?_
    exact Or.inr ⟨c1, rfl, q1, (q2.2 75 (by decide) (by decide)).trans hg⟩
  · skip
    refine g_aload_n (i := 0) rfl rfl ?_
    refine g_bipush (n := (-6)) rfl ?_
    refine g_virt1 (Qc := fun r h' => r = some (.int (-6)) ∧ ∃ R, h' = List.set h 61 (.inl (0, 8, .inl R))) rfl (by decide) rfl M.1 rfl (Nat.le_of_ble_eq_true rfl) (sDo_up (d := 1) (by omega) (s_no (d := 0) hH (by decide) (by decide))) (fun r h8 hq9 => ?_)
    obtain ⟨rfl, R, rfl⟩ := hq9
    refine g_ireturn (ty := .int) rfl rfl rfl ?_
    exact Or.inl ⟨c1, rfl, MC_61 M, by rw [s_set_ne (by decide)]; exact hg⟩
end
section
/-! ===== bits of a long ===== -/
theorem nTF {b : Bool} (h : ¬ b = true) : b = false := Bool.eq_false_iff.mpr h
def zI (P : Prop) [Decidable P] : Int32 := if P then 1 else 0
theorem zI_eq0 {P : Prop} [Decidable P] : zI P = 0 ↔ ¬ P := by
  unfold zI
  by_cases h : P
  · rw [if_pos h]; exact ⟨fun z => absurd z (by decide), fun z => absurd h z⟩
  · rw [if_neg h]; exact ⟨fun _ => h, fun _ => rfl⟩
theorem zI_pos {P : Prop} [Decidable P] (h : P) : zI P = 1 := if_pos h
theorem zI_neg {P : Prop} [Decidable P] (h : ¬ P) : zI P = 0 := if_neg h
theorem zI_iff {P Q : Prop} [Decidable P] [Decidable Q] (h : P ↔ Q) : zI P = zI Q := by
  by_cases p : P
  · rw [zI_pos p, zI_pos (h.mp p)]
  · rw [zI_neg p, zI_neg (fun q => p (h.mpr q))]
theorem i_eq {x y : Int32} : x = y ↔ x.toInt = y.toInt := Int32.toInt_inj.symm
theorem lc_eq {x y : Int64} : lg_cmp x y = 0 ↔ x = y := by
  unfold lg_cmp
  constructor
  · intro h
    split at h
    · exact absurd h (by decide)
    · split at h
      · rename_i e; exact e
      · exact absurd h (by decide)
  · intro h
    subst h
    simp
theorem sDo_of1 {d k nL : Nat} {as : List Value} {h : sHp} {L : sLo} {Q : Option Value → sHp → Prop} (hd : 1 ≤ d) (hn : sNk k = some nL) (hi : sIni nL as = some L) (g : sGo none k (d - 1) 0 L [] h Q) : sDo d k as h Q := by
  obtain ⟨e, rfl⟩ : ∃ e, d = e + 1 := ⟨d - 1, by omega⟩
  exact sDo_of hn hi g
def bt (x : Int64) (i : Nat) : Bool := x.toBitVec.getLsbD i
abbrev lM1 : Int64 := Int64.ofNat 18446744073709551615
theorem bt_ext {x y : Int64} (h : ∀ i, i < 64 → bt x i = bt y i) : x = y := Int64.toBitVec_inj.mp (BitVec.eq_of_getLsbD_eq h)
theorem bt_big {x : Int64} {i : Nat} (h : 64 ≤ i) : bt x i = false := BitVec.getLsbD_of_ge _ _ h
theorem bt_and (x y : Int64) (i : Nat) : bt (x &&& y) i = (bt x i && bt y i) := BitVec.getLsbD_and
theorem bt_or (x y : Int64) (i : Nat) : bt (x ||| y) i = (bt x i || bt y i) := BitVec.getLsbD_or
theorem bt_xor (x y : Int64) (i : Nat) : bt (x ^^^ y) i = (bt x i ^^ bt y i) := BitVec.getLsbD_xor
theorem bt_0 (i : Nat) : bt (Int64.ofNat 0) i = false := BitVec.getLsbD_zero
theorem bt_m1 (i : Nat) : bt lM1 i = decide (i < 64) := by
  have e : lM1.toBitVec = BitVec.allOnes 64 := by decide
  unfold bt
  rw [e, BitVec.getLsbD_allOnes]
theorem bt_not (x : Int64) (i : Nat) : bt (x ^^^ lM1) i = (decide (i < 64) && !bt x i) := by
  rw [bt_xor, bt_m1]
  by_cases h : i < 64
  · rw [decide_eq_true h]; cases bt x i <;> rfl
  · rw [decide_eq_false h, bt_big (by omega)]; rfl
theorem bt_eq0 {x : Int64} : x = Int64.ofNat 0 ↔ ∀ i, i < 64 → bt x i = false := ⟨fun h i _ => by rw [h, bt_0], fun h => bt_ext (fun i hi => by rw [h i hi, bt_0])⟩
theorem sh_eq : ∀ k, k < 64 → ((Int32.ofNat k).toInt64 &&& 63).toBitVec.smod 64 = BitVec.ofNat 64 k := by decide +kernel
theorem ush_eq : ∀ k, k < 64 → ((Int32.ofNat k).toInt64.toUInt64 &&& Int64.toUInt64 63).toBitVec % 64 = BitVec.ofNat 64 k := by decide +kernel
theorem bt_shl {k : Nat} (hk : k < 64) (x : Int64) (i : Nat) : bt (x <<< ((Int32.ofNat k).toInt64 &&& 63)) i = (decide (i < 64) && (decide (k ≤ i) && bt x (i - k))) := by
  show (x.toBitVec <<< (((Int32.ofNat k).toInt64 &&& 63).toBitVec.smod 64)).getLsbD i = _
  rw [sh_eq k hk, BitVec.shiftLeft_eq', BitVec.toNat_ofNat, Nat.mod_eq_of_lt (by omega), BitVec.getLsbD_shiftLeft]
  by_cases h : k ≤ i
  · rw [decide_eq_true h, decide_eq_false (show ¬ i < k by omega), Bool.not_false, Bool.and_true, Bool.true_and]; rfl
  · rw [decide_eq_false h, decide_eq_true (show i < k by omega)]
    cases decide (i < 64) <;> rfl
theorem bt_ushr {k : Nat} (hk : k < 64) (x : Int64) (i : Nat) : bt ((x.toUInt64 >>> ((Int32.ofNat k).toInt64.toUInt64 &&& Int64.toUInt64 63)).toInt64) i = bt x (i + k) := by
  show (x.toBitVec >>> (((Int32.ofNat k).toInt64.toUInt64 &&& Int64.toUInt64 63).toBitVec % 64)).getLsbD i = _
  rw [ush_eq k hk, BitVec.ushiftRight_eq', BitVec.toNat_ofNat, Nat.mod_eq_of_lt (by omega), BitVec.getLsbD_ushiftRight, Nat.add_comm]
  rfl
theorem bt_lit1 (i : Nat) : bt (Int64.ofNat 1) i = decide (i = 0) := by
  show (1#64).getLsbD i = _
  rw [BitVec.getLsbD_one]
  cases i <;> rfl
theorem bt_one {k : Nat} (hk : k < 64) (i : Nat) : bt (Int64.ofNat 1 <<< ((Int32.ofNat k).toInt64 &&& 63)) i = decide (i = k) := by
  rw [bt_shl hk, bt_lit1]
  by_cases h : i = k
  · subst h; simp; omega
  · rw [decide_eq_false h]
    by_cases h2 : k ≤ i
    · rw [decide_eq_false (show ¬ i - k = 0 by omega)]; simp
    · rw [decide_eq_false h2]; simp
theorem bt_has {k : Nat} (hk : k < 64) (x : Int64) : (x >>> ((Int32.ofNat k).toInt64 &&& 63)) &&& Int64.ofNat 1 = if bt x k = true then Int64.ofNat 1 else Int64.ofNat 0 := by
  have e : ∀ i, bt (x >>> ((Int32.ofNat k).toInt64 &&& 63)) i = (x.toBitVec.sshiftRight k).getLsbD i := by
    intro i
    show (x.toBitVec.sshiftRight' (((Int32.ofNat k).toInt64 &&& 63).toBitVec.smod 64)).getLsbD i = _
    rw [sh_eq k hk]
    unfold BitVec.sshiftRight'
    rw [BitVec.toNat_ofNat, Nat.mod_eq_of_lt (by omega)]
  apply bt_ext
  intro i hi
  rw [bt_and, e, BitVec.getLsbD_sshiftRight, bt_lit1]
  by_cases h : i = 0
  · subst h
    have h2 : x.toBitVec.getLsbD (k + 0) = bt x k := rfl
    rw [if_pos (show k + 0 < 64 by omega), h2]
    by_cases hb : bt x k = true
    · rw [if_pos hb, bt_lit1, hb]; rfl
    · rw [if_neg hb, bt_0, nTF hb]; rfl
  · rw [decide_eq_false h, Bool.and_false]
    split
    · rw [bt_lit1, decide_eq_false h]
    · rw [bt_0]
/-! ===== sets by a predicate ===== -/
def stO (P : Nat → Bool) : Nat → Int64
  | 0 => Int64.ofNat 0
  | n + 1 => if P n = true then stO P n ||| (Int64.ofNat 1 <<< ((Int32.ofNat n).toInt64 &&& 63)) else stO P n
theorem bt_stO (P : Nat → Bool) : ∀ (n : Nat), n ≤ 64 → ∀ i, bt (stO P n) i = (decide (i < n) && P i) := by
  intro n
  induction n with
  | zero => intro _ i; unfold stO; rw [bt_0, decide_eq_false (Nat.not_lt_zero i)]; rfl
  | succ n ih =>
    intro hn i
    have hi := ih (by omega) i
    unfold stO
    split
    · rename_i h
      rw [bt_or, hi, bt_one (by omega)]
      by_cases e : i = n
      · subst e; rw [h]; simp
      · rw [decide_eq_false e, Bool.or_false, show decide (i < n + 1) = decide (i < n) from decide_eq_decide.mpr (by omega)]
    · rename_i h
      rw [hi]
      by_cases e : i = n
      · subst e; rw [nTF h, Bool.and_false, Bool.and_false]
      · rw [show decide (i < n + 1) = decide (i < n) from decide_eq_decide.mpr (by omega)]
theorem stO_of {x : Int64} {n : Nat} {P : Nat → Bool} (hn : n ≤ 64) (h : ∀ i, i < 64 → bt x i = (decide (i < n) && P i)) : x = stO P n := bt_ext (fun i hi => by rw [h i hi, bt_stO P n hn])
theorem stO_congr {P P' : Nat → Bool} {n : Nat} (hn : n ≤ 64) (h : ∀ i, i < n → P i = P' i) : stO P n = stO P' n := stO_of hn (fun i hi => by
  rw [bt_stO P n hn]
  by_cases e : i < n
  · rw [h i e]
  · rw [decide_eq_false e]; rfl)
/-! ===== quotients ===== -/
theorem i_div {x y : Int32} (hx : 0 ≤ x.toInt) (hy : 0 < y.toInt) : (x / y).toInt = x.toInt / y.toInt := by
  have h1 : x.toInt / y.toInt ≤ x.toInt := Int.ediv_le_self _ hx
  have h2 : 0 ≤ x.toInt / y.toInt := Int.ediv_nonneg hx (by omega)
  have h3 := Int32.toInt_lt x
  rw [Int32.toInt_div, Int.tdiv_eq_ediv_of_nonneg hx]
  exact Int.bmod_eq_of_le (by omega) (by omega)
theorem i_rem {x y : Int32} (hx : 0 ≤ x.toInt) (hy : 0 < y.toInt) : (x - x / y * y).toInt = x.toInt % y.toInt := by
  have h1 : x.toInt / y.toInt * y.toInt ≤ x.toInt := Int.ediv_mul_le _ (by omega)
  have h2 : 0 ≤ x.toInt / y.toInt * y.toInt := Int.mul_nonneg (Int.ediv_nonneg hx (by omega)) (by omega)
  have h3 := Int32.toInt_lt x
  have e1 : (x / y * y).toInt = x.toInt / y.toInt * y.toInt := by rw [i_mul (by rw [i_div hx hy]; omega) (by rw [i_div hx hy]; omega), i_div hx hy]
  rw [i_sub (by rw [e1]; omega) (by rw [e1]; omega), e1, Int.emod_def, Int.mul_comm y.toInt]
theorem n_div {x y : Int32} {X Y : Nat} (hx : x.toInt = X) (hy : y.toInt = Y) (h0 : 0 < Y) : (x / y).toInt = ((X / Y : Nat) : Int) := by
  rw [i_div (by omega) (by omega), hx, hy]; rfl
theorem n_rem {x y : Int32} {X Y : Nat} (hx : x.toInt = X) (hy : y.toInt = Y) (h0 : 0 < Y) : (x - x / y * y).toInt = ((X % Y : Nat) : Int) := by
  rw [i_rem (by omega) (by omega), hx, hy]; rfl
theorem n_mul {x y : Int32} {X Y : Nat} (hx : x.toInt = X) (hy : y.toInt = Y) (h0 : X * Y < 2147483648) : (x * y).toInt = ((X * Y : Nat) : Int) := by
  have e : ((X * Y : Nat) : Int) = (X : Int) * (Y : Int) := Int.natCast_mul X Y
  rw [i_mul (by rw [hx, hy, ← e]; omega) (by rw [hx, hy, ← e]; omega), hx, hy, e]
theorem cD_100 {c : Int32} {C : Nat} (h : c.toInt = C) : (cD c (Int8.ofInt 100).toInt32).toInt = ((C / 100 % 10 : Nat) : Int) := n_rem (n_div h (show (Int8.ofInt 100).toInt32.toInt = ((100 : Nat) : Int) from rfl) (by decide)) (show (Int8.ofInt 10).toInt32.toInt = ((10 : Nat) : Int) from rfl) (by decide)
theorem cD_10 {c : Int32} {C : Nat} (h : c.toInt = C) : (cD c (Int8.ofInt 10).toInt32).toInt = ((C / 10 % 10 : Nat) : Int) := n_rem (n_div h (show (Int8.ofInt 10).toInt32.toInt = ((10 : Nat) : Int) from rfl) (by decide)) (show (Int8.ofInt 10).toInt32.toInt = ((10 : Nat) : Int) from rfl) (by decide)
theorem cD_1 {c : Int32} {C : Nat} (h : c.toInt = C) : (cD1 c).toInt = ((C % 10 : Nat) : Int) := n_rem h (show (Int8.ofInt 10).toInt32.toInt = ((10 : Nat) : Int) from rfl) (by decide)
/-! ===== switches ===== -/
theorem g_tsIn {k d pc : Nat} {L : sLo} {st : List Value} {h : sHp} {Q : Option Value → sHp → Prop} {df lo hi off : Int} {offs : Array Int} {x : Int32} (j t : Nat) (hF : sFk k pc = some (.tableswitch df lo hi offs)) (h2 : lo ≤ x.toInt ∧ x.toInt ≤ hi) (hj : x.toInt - lo = j) (ho : offs[j]? = some off) (ht : sTgt pc off = some t) (g : sGo none k d t L st h Q) : sGo none k d pc L (.int x :: st) h Q := by
  refine go_jmp (pc1 := t) (st1 := st) hF rfl ?_ g
  show (if x.toInt < lo ∨ hi < x.toInt then _ else (match offs[(x.toInt - lo).toNat]? with
    | some off => (sTgt pc off).map (fun t => (t, st))
    | none => none)) = _
  rw [if_neg (by omega), show (x.toInt - lo).toNat = j by omega, ho]
  show (sTgt pc off).map (fun t => (t, st)) = _
  rw [ht]; rfl
theorem g_tsOut {k d pc : Nat} {L : sLo} {st : List Value} {h : sHp} {Q : Option Value → sHp → Prop} {df lo hi : Int} {offs : Array Int} {x : Int32} (t : Nat) (hF : sFk k pc = some (.tableswitch df lo hi offs)) (h2 : x.toInt < lo ∨ hi < x.toInt) (ht : sTgt pc df = some t) (g : sGo none k d t L st h Q) : sGo none k d pc L (.int x :: st) h Q := by
  refine go_jmp (pc1 := t) (st1 := st) hF rfl ?_ g
  show (if x.toInt < lo ∨ hi < x.toInt then (sTgt pc df).map (fun t => (t, st)) else _) = _
  rw [if_pos h2, ht]; rfl
end
