section
/-! ===== owners taken over ===== -/
def tkN (T S : Nat → Int64) : Nat → Nat
  | 0 => 0
  | k + 1 => tkN T S k + cnt (T k &&& (S k ^^^ Int64.ofNat 18446744073709551615))
def chN (a b : Nat → Int32) : Nat → Nat
  | 0 => 0
  | q + 1 => chN a b q + (if a q = b q then 0 else 1)
theorem chN_le {a b : Nat → Int32} : ∀ q, chN a b q ≤ q := by
  intro q
  induction q with
  | zero => exact Nat.le_refl _
  | succ q ih =>
    show chN a b q + _ ≤ q + 1
    split <;> omega
theorem tkN_le {T S : Nat → Int64} : ∀ k, tkN T S k ≤ 64 * k := by
  intro k
  induction k with
  | zero => exact Nat.le_refl _
  | succ k ih =>
    show tkN T S k + cnt _ ≤ _
    have := cnt_le (T k &&& (S k ^^^ Int64.ofNat 18446744073709551615))
    omega
/-- the bits counted up to a square -/
def tkB (T S : Nat → Int64) : Nat → Nat → Nat
  | 0, _ => 0
  | k + 1, q => tkB T S k q + cntB (T k &&& (S k ^^^ Int64.ofNat 18446744073709551615)) q
def smF (a b : Int32) : Nat → Nat
  | 0 => 0
  | k + 1 => smF a b k + (if (decide (b = cdS k) && !decide (a = cdS k)) = true then 1 else 0)
theorem smF_of {a b : Int32} {k0 : Nat} (h0 : k0 < 7) (hb : b = cdS k0) : ∀ k, k ≤ 7 → smF a b k = if k0 < k then (if a = b then 0 else 1) else 0 := by
  intro k
  induction k with
  | zero => intro _; exact (if_neg (Nat.not_lt_zero _)).symm
  | succ k ih =>
    intro hk
    show smF a b k + _ = _
    rw [ih (by omega)]
    by_cases e : k = k0
    · subst e
      rw [if_neg (Nat.lt_irrefl k), if_pos (show k < k + 1 by omega), decide_eq_true hb, Bool.true_and, Nat.zero_add]
      by_cases y : a = b
      · rw [if_pos y, decide_eq_true (y.trans hb)]; rfl
      · rw [if_neg y, decide_eq_false (fun z => y (z.trans hb.symm))]; rfl
    · rw [decide_eq_false (show ¬ b = cdS k from fun z => e (cdS_inj (by omega) h0 (z.symm.trans hb))), Bool.false_and, if_neg (show ¬ (false = true) by decide), Nat.add_zero]
      by_cases l : k0 < k
      · rw [if_pos l, if_pos (show k0 < k + 1 by omega)]
      · rw [if_neg l, if_neg (show ¬ k0 < k + 1 by omega)]
theorem tkB_s {S T : Nat → Int64} {ow ow' : Nat → Int32} {n q : Nat} (hn : n ≤ 64) (P : PT S ow n) (P' : PT T ow' n) (hq : q < n) : ∀ k, k ≤ 7 → tkB T S k (q + 1) = tkB T S k q + smF (ow q) (ow' q) k := by
  intro k
  induction k with
  | zero => intro _; rfl
  | succ k ih =>
    intro hk
    have e : bt (T k &&& (S k ^^^ Int64.ofNat 18446744073709551615)) q = (decide (ow' q = cdS k) && !decide (ow q = cdS k)) := by
      have e2 : bt (T k &&& (S k ^^^ lM1)) q = _ := bt_and _ _ _
      rw [bt_not, PT_bt hn P (by omega) hq, PT_bt hn P' (by omega) hq, decide_eq_true (show q < 64 by omega), Bool.true_and] at e2
      exact e2
    show tkB T S k (q + 1) + (cntB (T k &&& (S k ^^^ Int64.ofNat 18446744073709551615)) q + (if bt (T k &&& (S k ^^^ Int64.ofNat 18446744073709551615)) q = true then 1 else 0)) = (tkB T S k q + cntB (T k &&& (S k ^^^ Int64.ofNat 18446744073709551615)) q) + (smF (ow q) (ow' q) k + _)
    rw [ih (by omega), e]
    omega
theorem tkB_c {S T : Nat → Int64} {ow ow' : Nat → Int32} {n : Nat} (hn : n ≤ 64) (P : PT S ow n) (P' : PT T ow' n) : ∀ q, q ≤ n → tkB T S 7 q = chN ow ow' q := by
  intro q
  induction q with
  | zero => intro _; rfl
  | succ q ih =>
    intro hq
    obtain ⟨k0, h0, e0⟩ := P'.2 q (by omega)
    rw [tkB_s hn P P' (by omega) 7 (by decide), ih (by omega), smF_of h0 e0 7 (by decide), if_pos h0]
    rfl
theorem tk_ch {S T : Nat → Int64} {ow ow' : Nat → Int32} {n : Nat} (hn : n ≤ 64) (P : PT S ow n) (P' : PT T ow' n) : tkN T S 7 = chN ow ow' n := by
  have key : ∀ k, k ≤ 7 → tkN T S k = tkB T S k n := by
    intro k
    induction k with
    | zero => intro _; rfl
    | succ k ih =>
      intro hk
      obtain ⟨d, hd⟩ : ∃ d, n + d = 64 := ⟨64 - n, by omega⟩
      show tkN T S k + cntB (T k &&& (S k ^^^ Int64.ofNat 18446744073709551615)) 64 = tkB T S k n + cntB (T k &&& (S k ^^^ Int64.ofNat 18446744073709551615)) n
      rw [ih (by omega), ← hd, cntB_cut d (by omega) (fun i hi h64 => by rw [bt_and, PT_out hn P' (by omega) (by omega)]; rfl)]
  rw [key 7 (by decide)]
  exact tkB_c hn P P' n (Nat.le_refl _)
theorem s_take11_go {d : Nat} {h : sHp} {c : CF} {T : Nat → Int64} {p : Nat} (hd : 1 ≤ d) (F : FC h 5 c) (hp : p ≠ 15) (hT : h[p]? = some (.inl (1, 7, .inr (.inl T)))) : ∀ (f k : Nat), k + f = 7 → sGo none 43 d 4 [some (.ref 5), some (.ref p), some (.int (Int32.ofNat (tkN T c.2.2.2.2.2.2 k))), some (.int (Int32.ofNat k))] [] (h.set 15 (.inl (1, 7, .inr (.inl (cpL T c.2.2.2.2.2.2 k))))) (fun r h' => r = some (.int (Int32.ofNat (tkN T c.2.2.2.2.2.2 7))) ∧ h' = (h.set 15 (.inl (1, 7, .inr (.inl (cpL T c.2.2.2.2.2.2 7)))))) := by
  have e7 : (Int8.ofInt 7).toInt32.toInt = ((7 : Nat) : Int) := rfl
  have e7' : (Int32.ofNat 7).toInt = ((7 : Nat) : Int) := rfl
  intro f
  induction f with
  | zero =>
    intro k hk
    have k7 : k = 7 := by omega
    subst k7
    have hF : (h.set 15 (.inl (1, 7, .inr (.inl (cpL T c.2.2.2.2.2.2 7)))))[5]? = some (fO 5 c.1 c.2.1) := by rw [s_set_ne (by decide)]; exact F.1
    refine g_iload_n (i := 3) rfl rfl ?_
    refine g_bipush (n := 7) rfl ?_
    refine g_icmp_ge 51 rfl rfl (fun _ => ?_) (fun hc => absurd hc (by exact fun z => z (by decide)))
    refine g_iload_n (i := 2) rfl rfl ?_
    refine g_ireturn (ty := .int) rfl rfl rfl ?_
    exact ⟨rfl, rfl⟩
  | succ f ih =>
    intro k hk
    have ek := ofN_toInt (n := k) (by omega)
    have hF : (h.set 15 (.inl (1, 7, .inr (.inl (cpL T c.2.2.2.2.2.2 k)))))[5]? = some (fO 5 c.1 c.2.1) := by rw [s_set_ne (by decide)]; exact F.1
    have hT1 : (h.set 15 (.inl (1, 7, .inr (.inl (cpL T c.2.2.2.2.2.2 k)))))[p]? = some (.inl (1, 7, .inr (.inl T))) := by rw [s_set_ne (Ne.symm hp)]; exact hT
    have h15 : (h.set 15 (.inl (1, 7, .inr (.inl (cpL T c.2.2.2.2.2.2 k)))))[15]? = some (.inl (1, 7, .inr (.inl (cpL T c.2.2.2.2.2.2 k)))) := s_set_eq F.2.2.2.2.2.2
    have eS : cpL T c.2.2.2.2.2.2 k k = c.2.2.2.2.2.2 k := if_neg (Nat.lt_irrefl k)
    have hb := tkN_le (T := T) (S := c.2.2.2.2.2.2) k
    have hc := cnt_le (T k &&& (c.2.2.2.2.2.2 k ^^^ Int64.ofNat 18446744073709551615))
    have ev : Int32.ofNat (tkN T c.2.2.2.2.2.2 k) + Int32.ofNat (cnt (T k &&& (c.2.2.2.2.2.2 k ^^^ Int64.ofNat 18446744073709551615))) = Int32.ofNat (tkN T c.2.2.2.2.2.2 (k + 1)) := ofB_plus (by omega)
    obtain ⟨hz, ehz⟩ : ∃ z, z = (h.set 15 (.inl (1, 7, .inr (.inl (cpL T c.2.2.2.2.2.2 k))))) := ⟨_, rfl⟩
    rw [← ehz] at hF hT1 h15 ⊢
    refine g_iload_n (i := 3) rfl rfl ?_
    refine g_bipush (n := 7) rfl ?_
    refine g_icmp_ge 51 rfl rfl (fun hc => absurd hc (by rw [i_le, e7, ek]; omega)) (fun _ => ?_)
    refine g_iload_n (i := 3) rfl rfl ?_
    refine g_aload_n (i := 1) rfl rfl ?_
    refine g_alen rfl hT1 (by decide) ?_
    refine g_icmp_ge 51 rfl rfl (fun hc => absurd hc (by rw [i_le, e7', ek]; omega)) (fun _ => ?_)
    refine g_iload_n (i := 2) rfl rfl ?_
    refine g_aload_n (i := 1) rfl rfl ?_
    refine g_iload_n (i := 3) rfl rfl ?_
    refine g_laload (n := 7) (f := T) rfl hT1 (i_in (by omega) (by omega)) ?_
    rw [i_nat ek]
    refine g_aload_n (i := 0) rfl rfl ?_
    refine g_getfield (v := .ref (5 + 10)) rfl hF (by decide) rfl ?_
    refine g_iload_n (i := 3) rfl rfl ?_
    refine g_laload (n := 7) (f := cpL T c.2.2.2.2.2.2 k) rfl h15 (i_in (by omega) (by omega)) ?_
    rw [i_nat ek, eS]
    refine g_ldc2_w (j := 18446744073709551615) rfl ?_
    refine g_lxor rfl ?_
    refine g_land rfl ?_
    refine g_static1 (Qc := fun r h' => h' = hz ∧ r = some (.int (Int32.ofNat (cnt (((T k) &&& ((c.2.2.2.2.2.2 k) ^^^ (Int64.ofNat 18446744073709551615)))))))) rfl (by decide) rfl (Nat.le_of_ble_eq_true rfl) (s_bitCount (by omega)) (fun r hz hq9 => ?_)
    obtain ⟨rfl, rfl⟩ := hq9
    refine g_iadd rfl ?_
    rw [ev]
    refine g_istore_n (i := 2) (L1 := [some (.ref 5), some (.ref p), some (.int (Int32.ofNat (tkN T c.2.2.2.2.2.2 (k + 1)))), some (.int (Int32.ofNat k))]) rfl (Nat.le_of_ble_eq_true rfl) rfl ?_
    refine g_aload_n (i := 0) rfl rfl ?_
    refine g_getfield (v := .ref (5 + 10)) rfl hF (by decide) rfl ?_
    refine g_iload_n (i := 3) rfl rfl ?_
    refine g_aload_n (i := 1) rfl rfl ?_
    refine g_iload_n (i := 3) rfl rfl ?_
    refine g_laload (n := 7) (f := T) rfl hT1 (i_in (by omega) (by omega)) ?_
    rw [i_nat ek]
    refine g_lastore (n := 7) (f := cpL T c.2.2.2.2.2.2 k) (h1 := (h.set 15 (.inl (1, 7, .inr (.inl (cpL T c.2.2.2.2.2.2 (k + 1))))))) rfl h15 (i_in (by omega) (by omega)) (by rw [i_nat ek, ehz, List.set_set, cpL_s]) ?_
    refine g_iinc (i := 3) (L1 := [some (.ref 5), some (.ref p), some (.int (Int32.ofNat (tkN T c.2.2.2.2.2.2 (k + 1)))), some (.int ((Int32.ofNat k) + Int32.ofInt 1))]) rfl rfl rfl ?_
    rw [ofN_add (by omega)]
    refine g_goto 4 rfl rfl ?_
    exact ih (k + 1) (by omega)
theorem s_take11 {d : Nat} {h : sHp} {c : CF} {T : Nat → Int64} {p : Nat} (hd : 2 ≤ d) (F : FC h 5 c) (hp : p ≠ 15) (hT : h[p]? = some (.inl (1, 7, .inr (.inl T)))) : sDo d 43 [.ref 5, .ref p] h (fun r h' => r = some (.int (Int32.ofNat (tkN T c.2.2.2.2.2.2 7))) ∧ h' = (h.set 15 (.inl (1, 7, .inr (.inl (cpL T c.2.2.2.2.2.2 7)))))) := by
  refine sDo_of1 (nL := 4) (L := [some (.ref 5), some (.ref p), none, none]) (by omega) rfl rfl ?_
  have e0 : h = (h.set 15 (.inl (1, 7, .inr (.inl (cpL T c.2.2.2.2.2.2 0))))) := List.ext_getElem? (fun i => by
    by_cases e : i = 15
    · rw [e, s_set_eq F.2.2.2.2.2.2, F.2.2.2.2.2.2, cpL_0]
    · rw [s_set_ne (Ne.symm e)])
  refine g_iconst (n := 0) rfl ?_
  refine g_istore_n (i := 2) (L1 := [some (.ref 5), some (.ref p), some (.int (Int32.ofInt 0)), none]) rfl (Nat.le_of_ble_eq_true rfl) rfl ?_
  refine g_iconst (n := 0) rfl ?_
  refine g_istore_n (i := 3) (L1 := [some (.ref 5), some (.ref p), some (.int (Int32.ofInt 0)), some (.int (Int32.ofInt 0))]) rfl (Nat.le_of_ble_eq_true rfl) rfl ?_
  have key := s_take11_go (d := d - 1) (by omega) F hp hT 7 0 (by decide)
  rw [← e0] at key
  exact key
/-! ===== lay ===== -/
theorem sdC_3 {W C q : Nat} : sdC W C q = 0 ∨ sdC W C q = 1 ∨ sdC W C q = 2 := by
  unfold sdC
  split
  · exact Or.inr (Or.inr rfl)
  · split
    · exact Or.inl rfl
    · exact Or.inr (Or.inl rfl)
def lyO (W C : Nat) (i j : Int32) : Nat → Int32 := fun q => if sdC W C q = 2 then 9 else if sdC W C q = 0 then i else j
def lyT (T : Nat → Int64) (W n C k1 k2 : Nat) : Nat → Int64 := vp_updL (vp_updL (vp_updL T k1 (T k1 ||| sdS W n C 0)) k2 (vp_updL T k1 (T k1 ||| sdS W n C 0) k2 ||| sdS W n C 1)) 5 (vp_updL (vp_updL T k1 (T k1 ||| sdS W n C 0)) k2 (vp_updL T k1 (T k1 ||| sdS W n C 0) k2 ||| sdS W n C 1) 5 ||| sdS W n C 2)
theorem bt_up {T : Nat → Int64} {k j : Nat} {x : Int64} (q : Nat) : bt (vp_updL T k (T k ||| x) j) q = (bt (T j) q || (decide (j = k) && bt x q)) := by
  by_cases e : j = k
  · rw [show vp_updL T k (T k ||| x) j = T k ||| x from if_pos e, bt_or, e, decide_eq_true rfl, Bool.true_and]
  · rw [show vp_updL T k (T k ||| x) j = T j from if_neg e, decide_eq_false e, Bool.false_and, Bool.or_false]
theorem PT_lay {W n C N k1 k2 : Nat} {i j : Int32} {T : Nat → Int64} (hn : n ≤ 64) (hN : N ≤ 5) (hT : ∀ k, k < 7 → T k = Int64.ofNat 0) (h1 : okO N i k1) (h2 : okO N j k2) : PT (lyT T W n C k1 k2) (lyO W C i j) n := by
  have c1 := okO_c hN h1
  have c2 := okO_c hN h2
  have dc : ∀ a, a < 7 → ∀ b, b < 7 → decide (cdS a = cdS b) = decide (b = a) := fun a ha b hb => decide_eq_decide.mpr ⟨fun z => (cdS_inj ha hb z).symm, fun z => by rw [z]⟩
  refine ⟨fun k hk => bt_ext (fun q hq => ?_), fun q _ => ?_⟩
  · unfold lyT
    rw [bt_up, bt_up, bt_up, hT k hk, bt_0, Bool.false_or]
    unfold sdS
    rw [bt_stO _ _ hn, bt_stO _ _ hn, bt_stO _ _ hn, bt_stO _ _ hn]
    by_cases z : q < n
    · rw [decide_eq_true z, Bool.true_and, Bool.true_and, Bool.true_and, Bool.true_and]
      unfold lyO
      have s0 : ((sdC W C q : Int) = 0) = (sdC W C q = 0) := propext (by omega)
      have s1 : ((sdC W C q : Int) = 1) = (sdC W C q = 1) := propext (by omega)
      have s2 : ((sdC W C q : Int) = 2) = (sdC W C q = 2) := propext (by omega)
      simp only [s0, s1, s2]
      have s3 := sdC_3 (W := W) (C := C) (q := q)
      rcases s3 with e | e | e
      · rw [if_neg (show ¬ sdC W C q = 2 by omega), if_pos e, c1.2, dc k1 c1.1 k hk, decide_eq_true e, decide_eq_false (show ¬ sdC W C q = 1 by omega), decide_eq_false (show ¬ sdC W C q = 2 by omega), Bool.and_true, Bool.and_false, Bool.and_false, Bool.or_false, Bool.or_false]
      · rw [if_neg (show ¬ sdC W C q = 2 by omega), if_neg (show ¬ sdC W C q = 0 by omega), c2.2, dc k2 c2.1 k hk, decide_eq_true e, decide_eq_false (show ¬ sdC W C q = 0 by omega), decide_eq_false (show ¬ sdC W C q = 2 by omega), Bool.and_true, Bool.and_false, Bool.and_false, Bool.false_or, Bool.or_false]
      · have d5 := dc 5 (by decide) k hk
        rw [if_pos e, show (9 : Int32) = cdS 5 from rfl, d5, decide_eq_true e, decide_eq_false (show ¬ sdC W C q = 0 by omega), decide_eq_false (show ¬ sdC W C q = 1 by omega), Bool.and_true, Bool.and_false, Bool.and_false, Bool.false_or, Bool.false_or]
    · rw [decide_eq_false z]
      simp only [Bool.false_and, Bool.and_false, Bool.or_false]
  · unfold lyO
    by_cases e2 : sdC W C q = 2
    · rw [if_pos e2]; exact ⟨5, by decide, rfl⟩
    · rw [if_neg e2]
      by_cases e0 : sdC W C q = 0
      · rw [if_pos e0]; exact ⟨k1, c1⟩
      · rw [if_neg e0]; exact ⟨k2, c2⟩
theorem s_lay11 {d : Nat} {h : sHp} {ik tf : Int32} {c : CF} {s : Sg} {gg : Nat → Option Nat} {sh i j x : Int32} {S pc C k1 k2 : Nat} {T : Nat → Int64} (hd : 7 ≤ d) (h0 : h[0]? = some (cO ik tf)) (F : FC h 5 c) (g : gdF c s.1 s.2.1) (sI : sgI c s) (a3 : h[2]? = some (.inl (4, 8, .inr (.inr (.inr (.inr gg)))))) (hs : sh.toInt = S) (hS : S < 8) (hg : gg S = some pc) (hc : C < 7000) (a : h[pc]? = some (.inr (bKl7 (C / 1000), cutFs (Int32.ofNat S) x))) (hpc : 79 ≤ pc) (hx : x.toInt = C) (hno : sDo (d - 1) 162 [.ref 0, .int sh] h (fun r h' => h' = h ∧ r = some (.int 0))) (h1 : okO s.2.2 i k1) (h2 : okO s.2.2 j k2) (h42 : h[42]? = some (.inl (1, 7, .inr (.inl T)))) : sDo d 134 [.ref 0, .int sh, .int i, .int j] h (fun r h' => r = some (.int (Int32.ofNat (tkN (lyT (zrF T 7) s.1 (s.1 * s.2.1) C k1 k2) c.2.2.2.2.2.2 7))) ∧ h' = ((h.set 42 (.inl (1, 7, .inr (.inl (lyT (zrF T 7) s.1 (s.1 * s.2.1) C k1 k2))))).set 15 (.inl (1, 7, .inr (.inl (cpL (lyT (zrF T 7) s.1 (s.1 * s.2.1) C k1 k2) c.2.2.2.2.2.2 7)))))) := by
  have n5 := sI.2.2.2.2.2.2.2
  have q1 := (okO_c n5 h1).1
  have q2 := (okO_c n5 h2).1
  have e1 := ofN_toInt (n := k1) (by omega)
  have e2 := ofN_toInt (n := k2) (by omega)
  have e5 : (Int32.ofInt 5).toInt = ((5 : Nat) : Int) := rfl
  have em : (Int32.ofInt (-1)).toInt = -1 := rfl
  have gS : va_rf (gg sh.toNatClampNeg) = .ref pc := by rw [i_nat hs, hg]; rfl
  refine sDo_of1 (nL := 7) (L := [some (.ref 0), some (.int sh), some (.int i), some (.int j), none, none, none]) (by omega) rfl rfl ?_
  refine g_aload_n (i := 0) rfl rfl ?_
  refine g_iload_n (i := 1) rfl rfl ?_
  refine g_virt1 (Qc := fun r h' => h' = h ∧ r = some (.int 0)) rfl (by decide) rfl h0 rfl (Nat.le_of_ble_eq_true rfl) (hno) (fun r h hq9 => ?_)
  obtain ⟨rfl, rfl⟩ := hq9
  refine g_istore (i := 4) (L1 := [some (.ref 0), some (.int sh), some (.int i), some (.int j), some (.int 0), none, none]) rfl (Nat.le_of_ble_eq_true rfl) rfl ?_
  refine g_aload_n (i := 0) rfl rfl ?_
  refine g_getfield (v := .ref 5) rfl h0 (by decide) rfl ?_
  refine g_iload_n (i := 2) rfl rfl ?_
  refine g_virt1 (Qc := fun r h' => h' = h ∧ r = some (.int (Int32.ofNat k1))) rfl (by decide) rfl F.1 rfl (Nat.le_of_ble_eq_true rfl) (s_slot11 (by omega) F sI h1) (fun r h hq9 => ?_)
  obtain ⟨rfl, rfl⟩ := hq9
  refine g_istore (i := 5) (L1 := [some (.ref 0), some (.int sh), some (.int i), some (.int j), some (.int 0), some (.int (Int32.ofNat k1)), none]) rfl (Nat.le_of_ble_eq_true rfl) rfl ?_
  refine g_aload_n (i := 0) rfl rfl ?_
  refine g_getfield (v := .ref 5) rfl h0 (by decide) rfl ?_
  refine g_iload_n (i := 3) rfl rfl ?_
  refine g_virt1 (Qc := fun r h' => h' = h ∧ r = some (.int (Int32.ofNat k2))) rfl (by decide) rfl F.1 rfl (Nat.le_of_ble_eq_true rfl) (s_slot11 (by omega) F sI h2) (fun r h hq9 => ?_)
  obtain ⟨rfl, rfl⟩ := hq9
  refine g_istore (i := 6) (L1 := [some (.ref 0), some (.int sh), some (.int i), some (.int j), some (.int 0), some (.int (Int32.ofNat k1)), some (.int (Int32.ofNat k2))]) rfl (Nat.le_of_ble_eq_true rfl) rfl ?_
  refine g_iload (i := 4) rfl rfl ?_
  refine g_iconst (n := (-1)) rfl ?_
  refine g_icmp_eq 45 rfl rfl (fun hc => absurd hc (by decide)) (fun _ => ?_)
  refine g_iload (i := 5) rfl rfl ?_
  refine g_iconst (n := (-1)) rfl ?_
  refine g_icmp_eq 45 rfl rfl (fun hc => absurd hc (by intro z; have z := congrArg Int32.toInt z; rw [e1, em] at z; omega)) (fun _ => ?_)
  refine g_iload (i := 6) rfl rfl ?_
  refine g_iconst (n := (-1)) rfl ?_
  refine g_icmp_ne 51 rfl rfl (fun _ => ?_) (fun hc => absurd hc (by intro z; have z := congrArg Int32.toInt z; rw [e2, em] at z; omega))
  refine g_iload (i := 4) rfl rfl ?_
  refine g_if_eq 63 rfl rfl (fun _ => ?_) (fun hc => absurd hc (by decide))
  refine g_aload_n (i := 0) rfl rfl ?_
  refine g_getfield (v := .ref 42) rfl h0 (by decide) rfl ?_
  refine g_static1 (Qc := fun r h' => r = none ∧ h' = h.set 42 (.inl (1, 7, .inr (.inl (zrF T 7))))) rfl (by decide) rfl (Nat.le_of_ble_eq_true rfl) (by rw [show d - 1 = (d - 2) + 1 by omega]; exact s_empty (d := d - 2) h42 (by decide)) (fun r1 hA hq => ?_)
  obtain ⟨rfl, rfl⟩ := hq
  have z0 : (h.set 42 (.inl (1, 7, .inr (.inl (zrF T 7)))))[0]? = some (cO ik tf) := by rw [s_set_ne (by decide)]; exact h0
  have F0 := FC_out (q := 42) (x := (.inl (1, 7, .inr (.inl (zrF T 7))))) F (by omega)
  have b0 : (h.set 42 (.inl (1, 7, .inr (.inl (zrF T 7)))))[2]? = some (.inl (4, 8, .inr (.inr (.inr (.inr gg))))) := by rw [s_set_ne (by decide)]; exact a3
  have p0 : (h.set 42 (.inl (1, 7, .inr (.inl (zrF T 7)))))[pc]? = some (.inr (bKl7 (C / 1000), cutFs (Int32.ofNat S) x)) := by rw [s_set_ne (by omega)]; exact a
  have t0 : (h.set 42 (.inl (1, 7, .inr (.inl (zrF T 7)))))[42]? = some (.inl (1, 7, .inr (.inl (zrF T 7)))) := s_set_eq h42
  refine g_aload_n (i := 0) rfl rfl ?_
  refine g_getfield (v := .ref 42) rfl z0 (by decide) rfl ?_
  refine g_iload (i := 5) rfl rfl ?_
  refine g_dup2 rfl rfl rfl ?_
  refine g_laload (n := 7) (f := (zrF T 7)) rfl t0 (i_in (by omega) (by omega)) ?_
  rw [i_nat e1]
  refine g_aload_n (i := 0) rfl rfl ?_
  refine g_aload_n (i := 0) rfl rfl ?_
  refine g_getfield (v := .ref 2) rfl z0 (by decide) rfl ?_
  refine g_iload_n (i := 1) rfl rfl ?_
  refine g_aaload rfl b0 (by decide) (i_in (by omega) (by omega)) ?_
  rw [gS]
  refine g_iconst (n := 0) rfl ?_
  refine g_virt2 rfl (by decide) rfl z0 rfl (Nat.le_of_ble_eq_true rfl) (s_sideOf11 (d := d - 1) (side := Int32.ofInt 0) (by omega) z0 rfl F0 g hc rfl p0 hx) (fun r9 h9 hq9 => ?_)
  obtain ⟨rfl, rfl⟩ := hq9
  show sGo none 134 _ 89 [some (.ref 0), some (.int sh), some (.int i), some (.int j), some (.int 0), some (.int (Int32.ofNat k1)), some (.int (Int32.ofNat k2))] [.long (sdS s.1 (s.1 * s.2.1) C 0), .long ((zrF T 7) k1), .int (Int32.ofNat k1), .ref 42] _ _
  refine g_lor rfl ?_
  refine g_lastore (n := 7) (f := (zrF T 7)) (h1 := h.set 42 (.inl (1, 7, .inr (.inl (vp_updL (zrF T 7) k1 ((zrF T 7) k1 ||| sdS s.1 (s.1 * s.2.1) C 0)))))) rfl t0 (i_in (by omega) (by omega)) (by rw [i_nat e1, List.set_set]) ?_
  have z1 : (h.set 42 (.inl (1, 7, .inr (.inl (vp_updL (zrF T 7) k1 ((zrF T 7) k1 ||| sdS s.1 (s.1 * s.2.1) C 0))))))[0]? = some (cO ik tf) := by rw [s_set_ne (by decide)]; exact h0
  have F1 := FC_out (q := 42) (x := (.inl (1, 7, .inr (.inl (vp_updL (zrF T 7) k1 ((zrF T 7) k1 ||| sdS s.1 (s.1 * s.2.1) C 0)))))) F (by omega)
  have b1 : (h.set 42 (.inl (1, 7, .inr (.inl (vp_updL (zrF T 7) k1 ((zrF T 7) k1 ||| sdS s.1 (s.1 * s.2.1) C 0))))))[2]? = some (.inl (4, 8, .inr (.inr (.inr (.inr gg))))) := by rw [s_set_ne (by decide)]; exact a3
  have p1 : (h.set 42 (.inl (1, 7, .inr (.inl (vp_updL (zrF T 7) k1 ((zrF T 7) k1 ||| sdS s.1 (s.1 * s.2.1) C 0))))))[pc]? = some (.inr (bKl7 (C / 1000), cutFs (Int32.ofNat S) x)) := by rw [s_set_ne (by omega)]; exact a
  have t1 : (h.set 42 (.inl (1, 7, .inr (.inl (vp_updL (zrF T 7) k1 ((zrF T 7) k1 ||| sdS s.1 (s.1 * s.2.1) C 0))))))[42]? = some (.inl (1, 7, .inr (.inl (vp_updL (zrF T 7) k1 ((zrF T 7) k1 ||| sdS s.1 (s.1 * s.2.1) C 0))))) := s_set_eq h42
  refine g_aload_n (i := 0) rfl rfl ?_
  refine g_getfield (v := .ref 42) rfl z1 (by decide) rfl ?_
  refine g_iload (i := 6) rfl rfl ?_
  refine g_dup2 rfl rfl rfl ?_
  refine g_laload (n := 7) (f := (vp_updL (zrF T 7) k1 ((zrF T 7) k1 ||| sdS s.1 (s.1 * s.2.1) C 0))) rfl t1 (i_in (by omega) (by omega)) ?_
  rw [i_nat e2]
  refine g_aload_n (i := 0) rfl rfl ?_
  refine g_aload_n (i := 0) rfl rfl ?_
  refine g_getfield (v := .ref 2) rfl z1 (by decide) rfl ?_
  refine g_iload_n (i := 1) rfl rfl ?_
  refine g_aaload rfl b1 (by decide) (i_in (by omega) (by omega)) ?_
  rw [gS]
  refine g_iconst (n := 1) rfl ?_
  refine g_virt2 rfl (by decide) rfl z1 rfl (Nat.le_of_ble_eq_true rfl) (s_sideOf11 (d := d - 1) (side := Int32.ofInt 1) (by omega) z1 rfl F1 g hc rfl p1 hx) (fun r9 h9 hq9 => ?_)
  obtain ⟨rfl, rfl⟩ := hq9
  show sGo none 134 _ 110 [some (.ref 0), some (.int sh), some (.int i), some (.int j), some (.int 0), some (.int (Int32.ofNat k1)), some (.int (Int32.ofNat k2))] [.long (sdS s.1 (s.1 * s.2.1) C 1), .long ((vp_updL (zrF T 7) k1 ((zrF T 7) k1 ||| sdS s.1 (s.1 * s.2.1) C 0)) k2), .int (Int32.ofNat k2), .ref 42] _ _
  refine g_lor rfl ?_
  refine g_lastore (n := 7) (f := (vp_updL (zrF T 7) k1 ((zrF T 7) k1 ||| sdS s.1 (s.1 * s.2.1) C 0))) (h1 := h.set 42 (.inl (1, 7, .inr (.inl (vp_updL (vp_updL (zrF T 7) k1 ((zrF T 7) k1 ||| sdS s.1 (s.1 * s.2.1) C 0)) k2 ((vp_updL (zrF T 7) k1 ((zrF T 7) k1 ||| sdS s.1 (s.1 * s.2.1) C 0)) k2 ||| sdS s.1 (s.1 * s.2.1) C 1)))))) rfl t1 (i_in (by omega) (by omega)) (by rw [i_nat e2, List.set_set]) ?_
  have z2 : (h.set 42 (.inl (1, 7, .inr (.inl (vp_updL (vp_updL (zrF T 7) k1 ((zrF T 7) k1 ||| sdS s.1 (s.1 * s.2.1) C 0)) k2 ((vp_updL (zrF T 7) k1 ((zrF T 7) k1 ||| sdS s.1 (s.1 * s.2.1) C 0)) k2 ||| sdS s.1 (s.1 * s.2.1) C 1))))))[0]? = some (cO ik tf) := by rw [s_set_ne (by decide)]; exact h0
  have F2 := FC_out (q := 42) (x := (.inl (1, 7, .inr (.inl (vp_updL (vp_updL (zrF T 7) k1 ((zrF T 7) k1 ||| sdS s.1 (s.1 * s.2.1) C 0)) k2 ((vp_updL (zrF T 7) k1 ((zrF T 7) k1 ||| sdS s.1 (s.1 * s.2.1) C 0)) k2 ||| sdS s.1 (s.1 * s.2.1) C 1)))))) F (by omega)
  have b2 : (h.set 42 (.inl (1, 7, .inr (.inl (vp_updL (vp_updL (zrF T 7) k1 ((zrF T 7) k1 ||| sdS s.1 (s.1 * s.2.1) C 0)) k2 ((vp_updL (zrF T 7) k1 ((zrF T 7) k1 ||| sdS s.1 (s.1 * s.2.1) C 0)) k2 ||| sdS s.1 (s.1 * s.2.1) C 1))))))[2]? = some (.inl (4, 8, .inr (.inr (.inr (.inr gg))))) := by rw [s_set_ne (by decide)]; exact a3
  have p2 : (h.set 42 (.inl (1, 7, .inr (.inl (vp_updL (vp_updL (zrF T 7) k1 ((zrF T 7) k1 ||| sdS s.1 (s.1 * s.2.1) C 0)) k2 ((vp_updL (zrF T 7) k1 ((zrF T 7) k1 ||| sdS s.1 (s.1 * s.2.1) C 0)) k2 ||| sdS s.1 (s.1 * s.2.1) C 1))))))[pc]? = some (.inr (bKl7 (C / 1000), cutFs (Int32.ofNat S) x)) := by rw [s_set_ne (by omega)]; exact a
  have t2 : (h.set 42 (.inl (1, 7, .inr (.inl (vp_updL (vp_updL (zrF T 7) k1 ((zrF T 7) k1 ||| sdS s.1 (s.1 * s.2.1) C 0)) k2 ((vp_updL (zrF T 7) k1 ((zrF T 7) k1 ||| sdS s.1 (s.1 * s.2.1) C 0)) k2 ||| sdS s.1 (s.1 * s.2.1) C 1))))))[42]? = some (.inl (1, 7, .inr (.inl (vp_updL (vp_updL (zrF T 7) k1 ((zrF T 7) k1 ||| sdS s.1 (s.1 * s.2.1) C 0)) k2 ((vp_updL (zrF T 7) k1 ((zrF T 7) k1 ||| sdS s.1 (s.1 * s.2.1) C 0)) k2 ||| sdS s.1 (s.1 * s.2.1) C 1))))) := s_set_eq h42
  refine g_aload_n (i := 0) rfl rfl ?_
  refine g_getfield (v := .ref 42) rfl z2 (by decide) rfl ?_
  refine g_iconst (n := 5) rfl ?_
  refine g_dup2 rfl rfl rfl ?_
  refine g_laload (n := 7) (f := (vp_updL (vp_updL (zrF T 7) k1 ((zrF T 7) k1 ||| sdS s.1 (s.1 * s.2.1) C 0)) k2 ((vp_updL (zrF T 7) k1 ((zrF T 7) k1 ||| sdS s.1 (s.1 * s.2.1) C 0)) k2 ||| sdS s.1 (s.1 * s.2.1) C 1))) rfl t2 (i_in (by omega) (by omega)) ?_
  rw [i_nat e5]
  refine g_aload_n (i := 0) rfl rfl ?_
  refine g_aload_n (i := 0) rfl rfl ?_
  refine g_getfield (v := .ref 2) rfl z2 (by decide) rfl ?_
  refine g_iload_n (i := 1) rfl rfl ?_
  refine g_aaload rfl b2 (by decide) (i_in (by omega) (by omega)) ?_
  rw [gS]
  refine g_iconst (n := 2) rfl ?_
  refine g_virt2 rfl (by decide) rfl z2 rfl (Nat.le_of_ble_eq_true rfl) (s_sideOf11 (d := d - 1) (side := Int32.ofInt 2) (by omega) z2 rfl F2 g hc rfl p2 hx) (fun r9 h9 hq9 => ?_)
  obtain ⟨rfl, rfl⟩ := hq9
  show sGo none 134 _ 130 [some (.ref 0), some (.int sh), some (.int i), some (.int j), some (.int 0), some (.int (Int32.ofNat k1)), some (.int (Int32.ofNat k2))] [.long (sdS s.1 (s.1 * s.2.1) C 2), .long ((vp_updL (vp_updL (zrF T 7) k1 ((zrF T 7) k1 ||| sdS s.1 (s.1 * s.2.1) C 0)) k2 ((vp_updL (zrF T 7) k1 ((zrF T 7) k1 ||| sdS s.1 (s.1 * s.2.1) C 0)) k2 ||| sdS s.1 (s.1 * s.2.1) C 1)) 5), .int (Int32.ofInt 5), .ref 42] _ _
  refine g_lor rfl ?_
  refine g_lastore (n := 7) (f := (vp_updL (vp_updL (zrF T 7) k1 ((zrF T 7) k1 ||| sdS s.1 (s.1 * s.2.1) C 0)) k2 ((vp_updL (zrF T 7) k1 ((zrF T 7) k1 ||| sdS s.1 (s.1 * s.2.1) C 0)) k2 ||| sdS s.1 (s.1 * s.2.1) C 1))) (h1 := h.set 42 (.inl (1, 7, .inr (.inl (vp_updL (vp_updL (vp_updL (zrF T 7) k1 ((zrF T 7) k1 ||| sdS s.1 (s.1 * s.2.1) C 0)) k2 ((vp_updL (zrF T 7) k1 ((zrF T 7) k1 ||| sdS s.1 (s.1 * s.2.1) C 0)) k2 ||| sdS s.1 (s.1 * s.2.1) C 1)) 5 ((vp_updL (vp_updL (zrF T 7) k1 ((zrF T 7) k1 ||| sdS s.1 (s.1 * s.2.1) C 0)) k2 ((vp_updL (zrF T 7) k1 ((zrF T 7) k1 ||| sdS s.1 (s.1 * s.2.1) C 0)) k2 ||| sdS s.1 (s.1 * s.2.1) C 1)) 5 ||| sdS s.1 (s.1 * s.2.1) C 2)))))) rfl t2 (i_in (by omega) (by omega)) (by rw [i_nat e5, List.set_set]) ?_
  have z3 : (h.set 42 (.inl (1, 7, .inr (.inl (vp_updL (vp_updL (vp_updL (zrF T 7) k1 ((zrF T 7) k1 ||| sdS s.1 (s.1 * s.2.1) C 0)) k2 ((vp_updL (zrF T 7) k1 ((zrF T 7) k1 ||| sdS s.1 (s.1 * s.2.1) C 0)) k2 ||| sdS s.1 (s.1 * s.2.1) C 1)) 5 ((vp_updL (vp_updL (zrF T 7) k1 ((zrF T 7) k1 ||| sdS s.1 (s.1 * s.2.1) C 0)) k2 ((vp_updL (zrF T 7) k1 ((zrF T 7) k1 ||| sdS s.1 (s.1 * s.2.1) C 0)) k2 ||| sdS s.1 (s.1 * s.2.1) C 1)) 5 ||| sdS s.1 (s.1 * s.2.1) C 2))))))[0]? = some (cO ik tf) := by rw [s_set_ne (by decide)]; exact h0
  have F3 := FC_out (q := 42) (x := (.inl (1, 7, .inr (.inl (vp_updL (vp_updL (vp_updL (zrF T 7) k1 ((zrF T 7) k1 ||| sdS s.1 (s.1 * s.2.1) C 0)) k2 ((vp_updL (zrF T 7) k1 ((zrF T 7) k1 ||| sdS s.1 (s.1 * s.2.1) C 0)) k2 ||| sdS s.1 (s.1 * s.2.1) C 1)) 5 ((vp_updL (vp_updL (zrF T 7) k1 ((zrF T 7) k1 ||| sdS s.1 (s.1 * s.2.1) C 0)) k2 ((vp_updL (zrF T 7) k1 ((zrF T 7) k1 ||| sdS s.1 (s.1 * s.2.1) C 0)) k2 ||| sdS s.1 (s.1 * s.2.1) C 1)) 5 ||| sdS s.1 (s.1 * s.2.1) C 2)))))) F (by omega)
  have b3 : (h.set 42 (.inl (1, 7, .inr (.inl (vp_updL (vp_updL (vp_updL (zrF T 7) k1 ((zrF T 7) k1 ||| sdS s.1 (s.1 * s.2.1) C 0)) k2 ((vp_updL (zrF T 7) k1 ((zrF T 7) k1 ||| sdS s.1 (s.1 * s.2.1) C 0)) k2 ||| sdS s.1 (s.1 * s.2.1) C 1)) 5 ((vp_updL (vp_updL (zrF T 7) k1 ((zrF T 7) k1 ||| sdS s.1 (s.1 * s.2.1) C 0)) k2 ((vp_updL (zrF T 7) k1 ((zrF T 7) k1 ||| sdS s.1 (s.1 * s.2.1) C 0)) k2 ||| sdS s.1 (s.1 * s.2.1) C 1)) 5 ||| sdS s.1 (s.1 * s.2.1) C 2))))))[2]? = some (.inl (4, 8, .inr (.inr (.inr (.inr gg))))) := by rw [s_set_ne (by decide)]; exact a3
  have p3 : (h.set 42 (.inl (1, 7, .inr (.inl (vp_updL (vp_updL (vp_updL (zrF T 7) k1 ((zrF T 7) k1 ||| sdS s.1 (s.1 * s.2.1) C 0)) k2 ((vp_updL (zrF T 7) k1 ((zrF T 7) k1 ||| sdS s.1 (s.1 * s.2.1) C 0)) k2 ||| sdS s.1 (s.1 * s.2.1) C 1)) 5 ((vp_updL (vp_updL (zrF T 7) k1 ((zrF T 7) k1 ||| sdS s.1 (s.1 * s.2.1) C 0)) k2 ((vp_updL (zrF T 7) k1 ((zrF T 7) k1 ||| sdS s.1 (s.1 * s.2.1) C 0)) k2 ||| sdS s.1 (s.1 * s.2.1) C 1)) 5 ||| sdS s.1 (s.1 * s.2.1) C 2))))))[pc]? = some (.inr (bKl7 (C / 1000), cutFs (Int32.ofNat S) x)) := by rw [s_set_ne (by omega)]; exact a
  have t3 : (h.set 42 (.inl (1, 7, .inr (.inl (vp_updL (vp_updL (vp_updL (zrF T 7) k1 ((zrF T 7) k1 ||| sdS s.1 (s.1 * s.2.1) C 0)) k2 ((vp_updL (zrF T 7) k1 ((zrF T 7) k1 ||| sdS s.1 (s.1 * s.2.1) C 0)) k2 ||| sdS s.1 (s.1 * s.2.1) C 1)) 5 ((vp_updL (vp_updL (zrF T 7) k1 ((zrF T 7) k1 ||| sdS s.1 (s.1 * s.2.1) C 0)) k2 ((vp_updL (zrF T 7) k1 ((zrF T 7) k1 ||| sdS s.1 (s.1 * s.2.1) C 0)) k2 ||| sdS s.1 (s.1 * s.2.1) C 1)) 5 ||| sdS s.1 (s.1 * s.2.1) C 2))))))[42]? = some (.inl (1, 7, .inr (.inl (vp_updL (vp_updL (vp_updL (zrF T 7) k1 ((zrF T 7) k1 ||| sdS s.1 (s.1 * s.2.1) C 0)) k2 ((vp_updL (zrF T 7) k1 ((zrF T 7) k1 ||| sdS s.1 (s.1 * s.2.1) C 0)) k2 ||| sdS s.1 (s.1 * s.2.1) C 1)) 5 ((vp_updL (vp_updL (zrF T 7) k1 ((zrF T 7) k1 ||| sdS s.1 (s.1 * s.2.1) C 0)) k2 ((vp_updL (zrF T 7) k1 ((zrF T 7) k1 ||| sdS s.1 (s.1 * s.2.1) C 0)) k2 ||| sdS s.1 (s.1 * s.2.1) C 1)) 5 ||| sdS s.1 (s.1 * s.2.1) C 2))))) := s_set_eq h42
  refine g_aload_n (i := 0) rfl rfl ?_
  refine g_getfield (v := .ref 5) rfl z3 (by decide) rfl ?_
  refine g_aload_n (i := 0) rfl rfl ?_
  refine g_getfield (v := .ref 42) rfl z3 (by decide) rfl ?_
  refine g_virt1 rfl (by decide) rfl F3.1 rfl (Nat.le_of_ble_eq_true rfl) (s_take11 (d := d - 1) (by omega) F3 (by decide) t3) (fun r9 h9 hq9 => ?_)
  obtain ⟨rfl, rfl⟩ := hq9
  refine g_ireturn (ty := .int) rfl rfl rfl ?_
  exact ⟨rfl, rfl⟩
theorem s_lay11n {d : Nat} {h : sHp} {ik tf : Int32} {R : Nat → Int32} {c : CF} {s : Sg} {sh i j b : Int32} {B : Nat} (hd : 4 ≤ d) (h0 : h[0]? = some (cO ik tf)) (hR : h[43]? = some (rFc R)) (F : FC h 5 c) (sI : sgI c s) (hno : sDo (d - 1) 162 [.ref 0, .int sh] h (fun r h' => h' = h ∧ r = some (.int b))) (hx : (b.toInt = -1 ∨ ¬ (∃ k, okO s.2.2 i k) ∨ ¬ (∃ k, okO s.2.2 j k)) ∧ B = 1 ∨ (¬ b.toInt = -1 ∧ (∃ k, okO s.2.2 i k) ∧ (∃ k, okO s.2.2 j k)) ∧ b.toInt = -(B : Int) ∧ 1 ≤ B ∧ B ≤ 7) : sDo d 134 [.ref 0, .int sh, .int i, .int j] h (fun r h' => (∃ v : Int32, v.toInt = -(B : Int) ∧ r = some (.int v)) ∧ h' = h.set 43 (rFc (bump R B))) := by
  have n5 := sI.2.2.2.2.2.2.2
  have em : (Int32.ofInt (-1)).toInt = -1 := rfl
  have slot : ∀ y : Int32, ∃ v : Int32, sDo (d - 1) 40 [.ref 5, .int y] h (fun r h' => h' = h ∧ r = some (.int v)) ∧ (v = Int32.ofInt (-1) ↔ ¬ ∃ k, okO s.2.2 y k) := fun y => by
    by_cases hk : ∃ k, okO s.2.2 y k
    · obtain ⟨k, hk⟩ := hk
      have k7 := (okO_c n5 hk).1
      refine ⟨Int32.ofNat k, s_slot11 (by omega) F sI hk, fun z => ?_, fun z => absurd ⟨k, hk⟩ z⟩
      have z := congrArg Int32.toInt z
      rw [ofN_toInt (by omega), em] at z
      omega
    · exact ⟨_, s_slot11n (by omega) F sI (fun k z => hk ⟨k, z⟩), fun _ => hk, fun _ => rfl⟩
  obtain ⟨v1, w1, x1⟩ := slot i
  obtain ⟨v2, w2, x2⟩ := slot j
  refine sDo_of1 (nL := 7) (L := [some (.ref 0), some (.int sh), some (.int i), some (.int j), none, none, none]) (by omega) rfl rfl ?_
  refine g_aload_n (i := 0) rfl rfl ?_
  refine g_iload_n (i := 1) rfl rfl ?_
  refine g_virt1 (Qc := fun r h' => h' = h ∧ r = some (.int b)) rfl (by decide) rfl h0 rfl (Nat.le_of_ble_eq_true rfl) (hno) (fun r h hq9 => ?_)
  obtain ⟨rfl, rfl⟩ := hq9
  refine g_istore (i := 4) (L1 := [some (.ref 0), some (.int sh), some (.int i), some (.int j), some (.int b), none, none]) rfl (Nat.le_of_ble_eq_true rfl) rfl ?_
  refine g_aload_n (i := 0) rfl rfl ?_
  refine g_getfield (v := .ref 5) rfl h0 (by decide) rfl ?_
  refine g_iload_n (i := 2) rfl rfl ?_
  refine g_virt1 (Qc := fun r h' => h' = h ∧ r = some (.int v1)) rfl (by decide) rfl F.1 rfl (Nat.le_of_ble_eq_true rfl) (w1) (fun r h hq9 => ?_)
  obtain ⟨rfl, rfl⟩ := hq9
  refine g_istore (i := 5) (L1 := [some (.ref 0), some (.int sh), some (.int i), some (.int j), some (.int b), some (.int v1), none]) rfl (Nat.le_of_ble_eq_true rfl) rfl ?_
  refine g_aload_n (i := 0) rfl rfl ?_
  refine g_getfield (v := .ref 5) rfl h0 (by decide) rfl ?_
  refine g_iload_n (i := 3) rfl rfl ?_
  refine g_virt1 (Qc := fun r h' => h' = h ∧ r = some (.int v2)) rfl (by decide) rfl F.1 rfl (Nat.le_of_ble_eq_true rfl) (w2) (fun r h hq9 => ?_)
  obtain ⟨rfl, rfl⟩ := hq9
  refine g_istore (i := 6) (L1 := [some (.ref 0), some (.int sh), some (.int i), some (.int j), some (.int b), some (.int v1), some (.int v2)]) rfl (Nat.le_of_ble_eq_true rfl) rfl ?_
  refine g_iload (i := 4) rfl rfl ?_
  refine g_iconst (n := (-1)) rfl ?_
  refine g_icmp_eq 45 rfl rfl (fun c_1 => ?_) (fun c_1 => ?_)
  · skip
    refine g_aload_n (i := 0) rfl rfl ?_
    refine g_iconst (n := (-1)) rfl ?_
    have hB : B = 1 := by
      rcases hx with ⟨-, y⟩ | ⟨y, -⟩
      · exact y
      · exact False.elim (y.1 (by rw [c_1]; rfl))
    subst hB
    refine g_virt1 (Qc := fun r h' => r = some (.int (Int32.ofInt (-1))) ∧ h' = h.set 43 (rFc (bump R 1))) rfl (by decide) rfl h0 rfl (Nat.le_of_ble_eq_true rfl) (s_refuse2 (X := 1) (by omega) h0 hR rfl (by decide)) (fun r h9 hq9 => ?_)
    obtain ⟨rfl, rfl⟩ := hq9
    refine g_ireturn (ty := .int) rfl rfl rfl ?_
    exact ⟨⟨_, rfl, rfl⟩, rfl⟩
  · skip
    refine g_iload (i := 5) rfl rfl ?_
    refine g_iconst (n := (-1)) rfl ?_
    refine g_icmp_eq 45 rfl rfl (fun c_2 => ?_) (fun c_2 => ?_)
    · skip
      refine g_aload_n (i := 0) rfl rfl ?_
      refine g_iconst (n := (-1)) rfl ?_
      have hB : B = 1 := by
        rcases hx with ⟨-, y⟩ | ⟨y, -⟩
        · exact y
        · exact False.elim ((x1.mp c_2) y.2.1)
      subst hB
      refine g_virt1 (Qc := fun r h' => r = some (.int (Int32.ofInt (-1))) ∧ h' = h.set 43 (rFc (bump R 1))) rfl (by decide) rfl h0 rfl (Nat.le_of_ble_eq_true rfl) (s_refuse2 (X := 1) (by omega) h0 hR rfl (by decide)) (fun r h9 hq9 => ?_)
      obtain ⟨rfl, rfl⟩ := hq9
      refine g_ireturn (ty := .int) rfl rfl rfl ?_
      exact ⟨⟨_, rfl, rfl⟩, rfl⟩
    · skip
      refine g_iload (i := 6) rfl rfl ?_
      refine g_iconst (n := (-1)) rfl ?_
      refine g_icmp_ne 51 rfl rfl (fun c_3 => ?_) (fun c_3 => ?_)
      · skip
        refine g_iload (i := 4) rfl rfl ?_
        have nb : ¬ b = 0 := fun z => by
          rcases hx with ⟨y, -⟩ | ⟨-, y⟩
          · rcases y with y | y | y
            · exact absurd (Int32.toInt_inj.mp (y.trans em.symm)) c_1
            · exact absurd (x1.mpr y) c_2
            · exact absurd (x2.mpr y) c_3
          · rw [z] at y
            have e0 : (0 : Int32).toInt = 0 := rfl
            omega
        refine g_if_eq 63 rfl rfl (fun hc => absurd hc (by exact nb)) (fun _ => ?_)
        refine g_aload_n (i := 0) rfl rfl ?_
        refine g_iload (i := 4) rfl rfl ?_
        have hB : b.toInt = -(B : Int) ∧ 1 ≤ B ∧ B ≤ 7 := by
          rcases hx with ⟨y, -⟩ | ⟨-, y⟩
          · rcases y with y | y | y
            · exact absurd (Int32.toInt_inj.mp (y.trans em.symm)) c_1
            · exact absurd (x1.mpr y) c_2
            · exact absurd (x2.mpr y) c_3
          · exact y
        refine g_virt1 (Qc := fun r h' => r = some (.int b) ∧ h' = h.set 43 (rFc (bump R B))) rfl (by decide) rfl h0 rfl (Nat.le_of_ble_eq_true rfl) (s_refuse2 (X := B) (by omega) h0 hR hB.1 hB.2) (fun r h9 hq9 => ?_)
        obtain ⟨rfl, rfl⟩ := hq9
        refine g_ireturn (ty := .int) rfl rfl rfl ?_
        exact ⟨⟨_, hB.1, rfl⟩, rfl⟩
      · skip
        refine g_aload_n (i := 0) rfl rfl ?_
        refine g_iconst (n := (-1)) rfl ?_
        have hB : B = 1 := by
          rcases hx with ⟨-, y⟩ | ⟨y, -⟩
          · exact y
          · exact False.elim ((x2.mp c_3) y.2.2)
        subst hB
        refine g_virt1 (Qc := fun r h' => r = some (.int (Int32.ofInt (-1))) ∧ h' = h.set 43 (rFc (bump R 1))) rfl (by decide) rfl h0 rfl (Nat.le_of_ble_eq_true rfl) (s_refuse2 (X := 1) (by omega) h0 hR rfl (by decide)) (fun r h9 hq9 => ?_)
        obtain ⟨rfl, rfl⟩ := hq9
        refine g_ireturn (ty := .int) rfl rfl rfl ?_
        exact ⟨⟨_, rfl, rfl⟩, rfl⟩
end
section
/-! ===== lay of the reference ===== -/
theorem s_lay12_go {d : Nat} {h : sHp} {m : MF} {s : Sg} {sh i j : Int32} {C : Nat} (hd : 1 ≤ d) (M : MC h m) (gM : gdM m.1 s.1 s.2.1) : ∀ (f k : Nat) (o9 : Option Value), k + f = s.1 * s.2.1 → sGo none 217 d 82 [some (.ref 60), some (.int sh), some (.int i), some (.int j), some (.int 0), some (.int (Int32.ofNat (chN m.2.2.1 (lyO s.1 C i j) k))), some (.long (sdS s.1 (s.1 * s.2.1) C 0)), none, some (.long (sdS s.1 (s.1 * s.2.1) C 2)), none, some (.int (Int32.ofNat k)), o9] [] (h.set 63 (.inl (0, 64, .inl (fun q => if q < k then (lyO s.1 C i j) q else m.2.2.1 q)))) (fun r h' => r = some (.int (Int32.ofNat (chN m.2.2.1 (lyO s.1 C i j) (s.1 * s.2.1)))) ∧ h' = (h.set 63 (.inl (0, 64, .inl (fun q => if q < (s.1 * s.2.1) then (lyO s.1 C i j) q else m.2.2.1 q))))) := by
  have gd := gM
  obtain ⟨gw, gh, w2, w8, h2, h8⟩ := gd
  have hn := gdM_n gM
  have hw0 : (m.1 0).toInt = ((s.1 : Nat) : Int) := by rw [gw]; exact ofN_toInt (by omega)
  have hw1 : (m.1 1).toInt = ((s.2.1 : Nat) : Int) := by rw [gh]; exact ofN_toInt (by omega)
  have hwn : (m.1 0 * m.1 1).toInt = ((s.1 * s.2.1 : Nat) : Int) := n_mul hw0 hw1 (by omega)
  intro f
  induction f with
  | zero =>
    intro k o9 hk
    have eW : s.1 * s.2.1 = k := by omega
    have ek := ofN_toInt (n := k) (by omega)
    have hr : (h.set 63 (.inl (0, 64, .inl (fun q => if q < k then (lyO s.1 C i j) q else m.2.2.1 q))))[60]? = some (mO m.1) := by rw [s_set_ne (by decide)]; exact M.1
    refine g_iload (i := 10) rfl rfl ?_
    refine g_aload_n (i := 0) rfl rfl ?_
    refine g_getfield (v := .int (m.1 0)) rfl hr (by decide) rfl ?_
    refine g_aload_n (i := 0) rfl rfl ?_
    refine g_getfield (v := .int (m.1 1)) rfl hr (by decide) rfl ?_
    refine g_imul rfl ?_
    refine g_icmp_ge 160 rfl rfl (fun _ => ?_) (fun hc => absurd hc (by rw [i_le, hwn, ek]; omega))
    refine g_iload (i := 5) rfl rfl ?_
    refine g_ireturn (ty := .int) rfl rfl rfl ?_
    exact ⟨by rw [eW], by rw [eW]⟩
  | succ f ih =>
    intro k o9 hk
    have ek := ofN_toInt (n := k) (by omega)
    have hcl := chN_le (a := m.2.2.1) (b := (lyO s.1 C i j)) k
    have hr : (h.set 63 (.inl (0, 64, .inl (fun q => if q < k then (lyO s.1 C i j) q else m.2.2.1 q))))[60]? = some (mO m.1) := by rw [s_set_ne (by decide)]; exact M.1
    have h63 : (h.set 63 (.inl (0, 64, .inl (fun q => if q < k then (lyO s.1 C i j) q else m.2.2.1 q))))[63]? = some (.inl (0, 64, .inl (fun q => if q < k then (lyO s.1 C i j) q else m.2.2.1 q))) := s_set_eq M.2.2.1
    have e0 : (if k < k then lyO s.1 C i j k else m.2.2.1 k) = m.2.2.1 k := if_neg (Nat.lt_irrefl k)
    have ef : ∀ v : Int32, v = (lyO s.1 C i j) k → upd (fun q => if q < k then (lyO s.1 C i j) q else m.2.2.1 q) k v = (fun q => if q < (k + 1) then (lyO s.1 C i j) q else m.2.2.1 q) := fun v hv => funext fun q => by
      by_cases e : q = k
      · rw [e, u_at, hv]; exact (if_pos (by omega)).symm
      · rw [u_ne e]
        by_cases l : q < k
        · exact (if_pos l).trans (if_pos (by omega)).symm
        · exact (if_neg l).trans (if_neg (by omega)).symm
    have b2 : bt (sdS s.1 (s.1 * s.2.1) C 2) k = true ↔ sdC s.1 C k = 2 := by
      unfold sdS
      rw [bt_stO _ _ hn.1, decide_eq_true (show k < s.1 * s.2.1 by omega), Bool.true_and, decide_eq_true_eq]
      omega
    have b0 : bt (sdS s.1 (s.1 * s.2.1) C 0) k = true ↔ sdC s.1 C k = 0 := by
      unfold sdS
      rw [bt_stO _ _ hn.1, decide_eq_true (show k < s.1 * s.2.1 by omega), Bool.true_and, decide_eq_true_eq]
      omega
    obtain ⟨hz, ehz⟩ : ∃ z, z = (h.set 63 (.inl (0, 64, .inl (fun q => if q < k then (lyO s.1 C i j) q else m.2.2.1 q)))) := ⟨_, rfl⟩
    rw [← ehz] at hr h63 ⊢
    refine g_iload (i := 10) rfl rfl ?_
    refine g_aload_n (i := 0) rfl rfl ?_
    refine g_getfield (v := .int (m.1 0)) rfl hr (by decide) rfl ?_
    refine g_aload_n (i := 0) rfl rfl ?_
    refine g_getfield (v := .int (m.1 1)) rfl hr (by decide) rfl ?_
    refine g_imul rfl ?_
    refine g_icmp_ge 160 rfl rfl (fun hc => absurd hc (by rw [i_le, hwn, ek]; omega)) (fun _ => ?_)
    refine g_aload_n (i := 0) rfl rfl ?_
    refine g_lload (i := 8) rfl rfl ?_
    refine g_iload (i := 10) rfl rfl ?_
    refine g_virt2 (Qc := fun r h' => h' = hz ∧ r = some (.int (zI (bt (sdS s.1 (s.1 * s.2.1) C 2) k = true)))) rfl (by decide) rfl hr rfl (Nat.le_of_ble_eq_true rfl) (s_hasE (by omega) hr (by omega)) (fun r hz hq9 => ?_)
    obtain ⟨rfl, rfl⟩ := hq9
    refine g_if_eq 112 rfl rfl (fun c_1 => ?_) (fun c_1 => ?_)
    · skip
      rw [zI_eq0] at c_1
      refine g_aload_n (i := 0) rfl rfl ?_
      refine g_lload (i := 6) rfl rfl ?_
      refine g_iload (i := 10) rfl rfl ?_
      refine g_virt2 (Qc := fun r h' => h' = hz ∧ r = some (.int (zI (bt (sdS s.1 (s.1 * s.2.1) C 0) k = true)))) rfl (by decide) rfl hr rfl (Nat.le_of_ble_eq_true rfl) (s_hasE (by omega) hr (by omega)) (fun r hz hq9 => ?_)
      obtain ⟨rfl, rfl⟩ := hq9
      refine g_if_eq 127 rfl rfl (fun c_2 => ?_) (fun c_2 => ?_)
      · skip
        rw [zI_eq0] at c_2
        refine g_iload_n (i := 3) rfl rfl ?_
        refine g_istore (i := 11) (L1 := [some (.ref 60), some (.int sh), some (.int i), some (.int j), some (.int 0), some (.int (Int32.ofNat (chN m.2.2.1 (lyO s.1 C i j) k))), some (.long (sdS s.1 (s.1 * s.2.1) C 0)), none, some (.long (sdS s.1 (s.1 * s.2.1) C 2)), none, some (.int (Int32.ofNat k)), some (.int j)]) rfl (Nat.le_of_ble_eq_true rfl) rfl ?_
        have ev : j = (lyO s.1 C i j) k := ((if_neg (fun z => c_1 (b2.mpr z))).trans (if_neg (fun z => c_2 (b0.mpr z)))).symm
        refine g_aload_n (i := 0) rfl rfl ?_
        refine g_getfield (v := .ref 63) rfl hr (by decide) rfl ?_
        refine g_iload (i := 10) rfl rfl ?_
        refine g_iaload (n := 64) (f := (fun q => if q < k then (lyO s.1 C i j) q else m.2.2.1 q)) rfl h63 (i_in (by omega) (by omega)) ?_
        rw [i_nat ek, e0]
        refine g_iload (i := 11) rfl rfl ?_
        refine g_icmp_eq 145 rfl rfl (fun c_3 => ?_) (fun c_3 => ?_)
        · skip
          have ec : (chN m.2.2.1 (lyO s.1 C i j) (k + 1)) = (chN m.2.2.1 (lyO s.1 C i j) k) := by
            show (chN m.2.2.1 (lyO s.1 C i j) k) + _ = _
            rw [if_pos (c_3.trans ev), Nat.add_zero]
          refine g_aload_n (i := 0) rfl rfl ?_
          refine g_getfield (v := .ref 63) rfl hr (by decide) rfl ?_
          refine g_iload (i := 10) rfl rfl ?_
          refine g_iload (i := 11) rfl rfl ?_
          refine g_iastore (n := 64) (f := (fun q => if q < k then (lyO s.1 C i j) q else m.2.2.1 q)) (h1 := (h.set 63 (.inl (0, 64, .inl (fun q => if q < (k + 1) then (lyO s.1 C i j) q else m.2.2.1 q))))) rfl h63 (i_in (by omega) (by omega)) (by rw [i_nat ek, ehz, List.set_set, ef _ ev]) ?_
          refine g_iinc (i := 10) (L1 := [some (.ref 60), some (.int sh), some (.int i), some (.int j), some (.int 0), some (.int (Int32.ofNat (chN m.2.2.1 (lyO s.1 C i j) k))), some (.long (sdS s.1 (s.1 * s.2.1) C 0)), none, some (.long (sdS s.1 (s.1 * s.2.1) C 2)), none, some (.int ((Int32.ofNat k) + Int32.ofInt 1)), some (.int j)]) rfl rfl rfl ?_
          rw [ofN_add (by omega)]
          refine g_goto 82 rfl rfl ?_
          have key := ih (k + 1) (some (.int j)) (by omega)
          rw [ec] at key
          exact key
        · skip
          have ec : (chN m.2.2.1 (lyO s.1 C i j) (k + 1)) = (chN m.2.2.1 (lyO s.1 C i j) k) + 1 := by
            show (chN m.2.2.1 (lyO s.1 C i j) k) + _ = _
            rw [if_neg (fun z => c_3 (z.trans ev.symm))]
          refine g_iinc (i := 5) (L1 := [some (.ref 60), some (.int sh), some (.int i), some (.int j), some (.int 0), some (.int ((Int32.ofNat (chN m.2.2.1 (lyO s.1 C i j) k)) + Int32.ofInt 1)), some (.long (sdS s.1 (s.1 * s.2.1) C 0)), none, some (.long (sdS s.1 (s.1 * s.2.1) C 2)), none, some (.int (Int32.ofNat k)), some (.int j)]) rfl rfl rfl ?_
          rw [ofN_add (by omega)]
          refine g_aload_n (i := 0) rfl rfl ?_
          refine g_getfield (v := .ref 63) rfl hr (by decide) rfl ?_
          refine g_iload (i := 10) rfl rfl ?_
          refine g_iload (i := 11) rfl rfl ?_
          refine g_iastore (n := 64) (f := (fun q => if q < k then (lyO s.1 C i j) q else m.2.2.1 q)) (h1 := (h.set 63 (.inl (0, 64, .inl (fun q => if q < (k + 1) then (lyO s.1 C i j) q else m.2.2.1 q))))) rfl h63 (i_in (by omega) (by omega)) (by rw [i_nat ek, ehz, List.set_set, ef _ ev]) ?_
          refine g_iinc (i := 10) (L1 := [some (.ref 60), some (.int sh), some (.int i), some (.int j), some (.int 0), some (.int (Int32.ofNat (chN m.2.2.1 (lyO s.1 C i j) k + 1))), some (.long (sdS s.1 (s.1 * s.2.1) C 0)), none, some (.long (sdS s.1 (s.1 * s.2.1) C 2)), none, some (.int ((Int32.ofNat k) + Int32.ofInt 1)), some (.int j)]) rfl rfl rfl ?_
          rw [ofN_add (by omega)]
          refine g_goto 82 rfl rfl ?_
          have key := ih (k + 1) (some (.int j)) (by omega)
          rw [ec] at key
          exact key
      · skip
        rw [zI_eq0] at c_2
        replace c_2 := Classical.not_not.mp c_2
        refine g_iload_n (i := 2) rfl rfl ?_
        refine g_goto 128 rfl rfl ?_
        refine g_istore (i := 11) (L1 := [some (.ref 60), some (.int sh), some (.int i), some (.int j), some (.int 0), some (.int (Int32.ofNat (chN m.2.2.1 (lyO s.1 C i j) k))), some (.long (sdS s.1 (s.1 * s.2.1) C 0)), none, some (.long (sdS s.1 (s.1 * s.2.1) C 2)), none, some (.int (Int32.ofNat k)), some (.int i)]) rfl (Nat.le_of_ble_eq_true rfl) rfl ?_
        have ev : i = (lyO s.1 C i j) k := ((if_neg (fun z => c_1 (b2.mpr z))).trans (if_pos (b0.mp c_2))).symm
        refine g_aload_n (i := 0) rfl rfl ?_
        refine g_getfield (v := .ref 63) rfl hr (by decide) rfl ?_
        refine g_iload (i := 10) rfl rfl ?_
        refine g_iaload (n := 64) (f := (fun q => if q < k then (lyO s.1 C i j) q else m.2.2.1 q)) rfl h63 (i_in (by omega) (by omega)) ?_
        rw [i_nat ek, e0]
        refine g_iload (i := 11) rfl rfl ?_
        refine g_icmp_eq 145 rfl rfl (fun c_4 => ?_) (fun c_4 => ?_)
        · skip
          have ec : (chN m.2.2.1 (lyO s.1 C i j) (k + 1)) = (chN m.2.2.1 (lyO s.1 C i j) k) := by
            show (chN m.2.2.1 (lyO s.1 C i j) k) + _ = _
            rw [if_pos (c_4.trans ev), Nat.add_zero]
          refine g_aload_n (i := 0) rfl rfl ?_
          refine g_getfield (v := .ref 63) rfl hr (by decide) rfl ?_
          refine g_iload (i := 10) rfl rfl ?_
          refine g_iload (i := 11) rfl rfl ?_
          refine g_iastore (n := 64) (f := (fun q => if q < k then (lyO s.1 C i j) q else m.2.2.1 q)) (h1 := (h.set 63 (.inl (0, 64, .inl (fun q => if q < (k + 1) then (lyO s.1 C i j) q else m.2.2.1 q))))) rfl h63 (i_in (by omega) (by omega)) (by rw [i_nat ek, ehz, List.set_set, ef _ ev]) ?_
          refine g_iinc (i := 10) (L1 := [some (.ref 60), some (.int sh), some (.int i), some (.int j), some (.int 0), some (.int (Int32.ofNat (chN m.2.2.1 (lyO s.1 C i j) k))), some (.long (sdS s.1 (s.1 * s.2.1) C 0)), none, some (.long (sdS s.1 (s.1 * s.2.1) C 2)), none, some (.int ((Int32.ofNat k) + Int32.ofInt 1)), some (.int i)]) rfl rfl rfl ?_
          rw [ofN_add (by omega)]
          refine g_goto 82 rfl rfl ?_
          have key := ih (k + 1) (some (.int i)) (by omega)
          rw [ec] at key
          exact key
        · skip
          have ec : (chN m.2.2.1 (lyO s.1 C i j) (k + 1)) = (chN m.2.2.1 (lyO s.1 C i j) k) + 1 := by
            show (chN m.2.2.1 (lyO s.1 C i j) k) + _ = _
            rw [if_neg (fun z => c_4 (z.trans ev.symm))]
          refine g_iinc (i := 5) (L1 := [some (.ref 60), some (.int sh), some (.int i), some (.int j), some (.int 0), some (.int ((Int32.ofNat (chN m.2.2.1 (lyO s.1 C i j) k)) + Int32.ofInt 1)), some (.long (sdS s.1 (s.1 * s.2.1) C 0)), none, some (.long (sdS s.1 (s.1 * s.2.1) C 2)), none, some (.int (Int32.ofNat k)), some (.int i)]) rfl rfl rfl ?_
          rw [ofN_add (by omega)]
          refine g_aload_n (i := 0) rfl rfl ?_
          refine g_getfield (v := .ref 63) rfl hr (by decide) rfl ?_
          refine g_iload (i := 10) rfl rfl ?_
          refine g_iload (i := 11) rfl rfl ?_
          refine g_iastore (n := 64) (f := (fun q => if q < k then (lyO s.1 C i j) q else m.2.2.1 q)) (h1 := (h.set 63 (.inl (0, 64, .inl (fun q => if q < (k + 1) then (lyO s.1 C i j) q else m.2.2.1 q))))) rfl h63 (i_in (by omega) (by omega)) (by rw [i_nat ek, ehz, List.set_set, ef _ ev]) ?_
          refine g_iinc (i := 10) (L1 := [some (.ref 60), some (.int sh), some (.int i), some (.int j), some (.int 0), some (.int (Int32.ofNat (chN m.2.2.1 (lyO s.1 C i j) k + 1))), some (.long (sdS s.1 (s.1 * s.2.1) C 0)), none, some (.long (sdS s.1 (s.1 * s.2.1) C 2)), none, some (.int ((Int32.ofNat k) + Int32.ofInt 1)), some (.int i)]) rfl rfl rfl ?_
          rw [ofN_add (by omega)]
          refine g_goto 82 rfl rfl ?_
          have key := ih (k + 1) (some (.int i)) (by omega)
          rw [ec] at key
          exact key
    · skip
      rw [zI_eq0] at c_1
      replace c_1 := Classical.not_not.mp c_1
      refine g_bipush (n := 9) rfl ?_
      refine g_goto 128 rfl rfl ?_
      refine g_istore (i := 11) (L1 := [some (.ref 60), some (.int sh), some (.int i), some (.int j), some (.int 0), some (.int (Int32.ofNat (chN m.2.2.1 (lyO s.1 C i j) k))), some (.long (sdS s.1 (s.1 * s.2.1) C 0)), none, some (.long (sdS s.1 (s.1 * s.2.1) C 2)), none, some (.int (Int32.ofNat k)), some (.int (Int8.ofInt 9).toInt32)]) rfl (Nat.le_of_ble_eq_true rfl) rfl ?_
      have ev : (Int8.ofInt 9).toInt32 = (lyO s.1 C i j) k := (show (Int8.ofInt 9).toInt32 = 9 from rfl).trans (if_pos (b2.mp c_1)).symm
      refine g_aload_n (i := 0) rfl rfl ?_
      refine g_getfield (v := .ref 63) rfl hr (by decide) rfl ?_
      refine g_iload (i := 10) rfl rfl ?_
      refine g_iaload (n := 64) (f := (fun q => if q < k then (lyO s.1 C i j) q else m.2.2.1 q)) rfl h63 (i_in (by omega) (by omega)) ?_
      rw [i_nat ek, e0]
      refine g_iload (i := 11) rfl rfl ?_
      refine g_icmp_eq 145 rfl rfl (fun c_5 => ?_) (fun c_5 => ?_)
      · skip
        have ec : (chN m.2.2.1 (lyO s.1 C i j) (k + 1)) = (chN m.2.2.1 (lyO s.1 C i j) k) := by
          show (chN m.2.2.1 (lyO s.1 C i j) k) + _ = _
          rw [if_pos (c_5.trans ev), Nat.add_zero]
        refine g_aload_n (i := 0) rfl rfl ?_
        refine g_getfield (v := .ref 63) rfl hr (by decide) rfl ?_
        refine g_iload (i := 10) rfl rfl ?_
        refine g_iload (i := 11) rfl rfl ?_
        refine g_iastore (n := 64) (f := (fun q => if q < k then (lyO s.1 C i j) q else m.2.2.1 q)) (h1 := (h.set 63 (.inl (0, 64, .inl (fun q => if q < (k + 1) then (lyO s.1 C i j) q else m.2.2.1 q))))) rfl h63 (i_in (by omega) (by omega)) (by rw [i_nat ek, ehz, List.set_set, ef _ ev]) ?_
        refine g_iinc (i := 10) (L1 := [some (.ref 60), some (.int sh), some (.int i), some (.int j), some (.int 0), some (.int (Int32.ofNat (chN m.2.2.1 (lyO s.1 C i j) k))), some (.long (sdS s.1 (s.1 * s.2.1) C 0)), none, some (.long (sdS s.1 (s.1 * s.2.1) C 2)), none, some (.int ((Int32.ofNat k) + Int32.ofInt 1)), some (.int (Int8.ofInt 9).toInt32)]) rfl rfl rfl ?_
        rw [ofN_add (by omega)]
        refine g_goto 82 rfl rfl ?_
        have key := ih (k + 1) (some (.int (Int8.ofInt 9).toInt32)) (by omega)
        rw [ec] at key
        exact key
      · skip
        have ec : (chN m.2.2.1 (lyO s.1 C i j) (k + 1)) = (chN m.2.2.1 (lyO s.1 C i j) k) + 1 := by
          show (chN m.2.2.1 (lyO s.1 C i j) k) + _ = _
          rw [if_neg (fun z => c_5 (z.trans ev.symm))]
        refine g_iinc (i := 5) (L1 := [some (.ref 60), some (.int sh), some (.int i), some (.int j), some (.int 0), some (.int ((Int32.ofNat (chN m.2.2.1 (lyO s.1 C i j) k)) + Int32.ofInt 1)), some (.long (sdS s.1 (s.1 * s.2.1) C 0)), none, some (.long (sdS s.1 (s.1 * s.2.1) C 2)), none, some (.int (Int32.ofNat k)), some (.int (Int8.ofInt 9).toInt32)]) rfl rfl rfl ?_
        rw [ofN_add (by omega)]
        refine g_aload_n (i := 0) rfl rfl ?_
        refine g_getfield (v := .ref 63) rfl hr (by decide) rfl ?_
        refine g_iload (i := 10) rfl rfl ?_
        refine g_iload (i := 11) rfl rfl ?_
        refine g_iastore (n := 64) (f := (fun q => if q < k then (lyO s.1 C i j) q else m.2.2.1 q)) (h1 := (h.set 63 (.inl (0, 64, .inl (fun q => if q < (k + 1) then (lyO s.1 C i j) q else m.2.2.1 q))))) rfl h63 (i_in (by omega) (by omega)) (by rw [i_nat ek, ehz, List.set_set, ef _ ev]) ?_
        refine g_iinc (i := 10) (L1 := [some (.ref 60), some (.int sh), some (.int i), some (.int j), some (.int 0), some (.int (Int32.ofNat (chN m.2.2.1 (lyO s.1 C i j) k + 1))), some (.long (sdS s.1 (s.1 * s.2.1) C 0)), none, some (.long (sdS s.1 (s.1 * s.2.1) C 2)), none, some (.int ((Int32.ofNat k) + Int32.ofInt 1)), some (.int (Int8.ofInt 9).toInt32)]) rfl rfl rfl ?_
        rw [ofN_add (by omega)]
        refine g_goto 82 rfl rfl ?_
        have key := ih (k + 1) (some (.int (Int8.ofInt 9).toInt32)) (by omega)
        rw [ec] at key
        exact key
theorem s_lay12 {d : Nat} {h : sHp} {m : MF} {s : Sg} {co : Nat → Int32} {sh i j : Int32} {S C : Nat} (hd : 4 ≤ d) (M : MC h m) (gM : gdM m.1 s.1 s.2.1) (sJ : sgJ m.1 s) (a7 : h[70]? = some (.inl (0, 8, .inl co))) (hs : sh.toInt = S) (hS : S < 8) (hC : (co S).toInt = C) (hc : C < 7000) (wt : sDo (d - 1) 184 [.ref 60, .int sh, .int (Int32.ofInt 2)] h (fun r h' => h' = h ∧ r = some (.int 0))) (h1 : ∃ k, okO s.2.2 i k) (h2 : ∃ k, okO s.2.2 j k) : sDo d 217 [.ref 60, .int sh, .int i, .int j] h (fun r h' => r = some (.int (Int32.ofNat (chN m.2.2.1 (lyO s.1 C i j) (s.1 * s.2.1)))) ∧ h' = (h.set 63 (.inl (0, 64, .inl (fun q => if q < (s.1 * s.2.1) then (lyO s.1 C i j) q else m.2.2.1 q))))) := by
  refine sDo_of1 (nL := 12) (L := [some (.ref 60), some (.int sh), some (.int i), some (.int j), none, none, none, none, none, none, none, none]) (by omega) rfl rfl ?_
  refine g_aload_n (i := 0) rfl rfl ?_
  refine g_iload_n (i := 1) rfl rfl ?_
  refine g_virt1 (Qc := fun r h' => h' = h ∧ (((0 ≤ sh.toInt ∧ sh.toInt < 8) ∧ r = some (.int 1)) ∨ (¬ (0 ≤ sh.toInt ∧ sh.toInt < 8) ∧ r = some (.int 0)))) rfl (by decide) rfl M.1 rfl (Nat.le_of_ble_eq_true rfl) (s_sh12z (by omega)) (fun r h hq9 => ?_)
  obtain ⟨rfl, ⟨c_1, rfl⟩ | ⟨c_1, rfl⟩⟩ := hq9
  · skip
    refine g_if_eq 24 rfl rfl (fun hc => absurd hc (by decide)) (fun _ => ?_)
    refine g_aload_n (i := 0) rfl rfl ?_
    refine g_iload_n (i := 2) rfl rfl ?_
    refine g_virt1 (Qc := fun r h' => h' = h ∧ (((∃ k, okO s.2.2 i k) ∧ r = some (.int 1)) ∨ (¬ (∃ k, okO s.2.2 i k) ∧ r = some (.int 0)))) rfl (by decide) rfl M.1 rfl (Nat.le_of_ble_eq_true rfl) (s_isOwn12 (by omega) M sJ) (fun r h hq9 => ?_)
    obtain ⟨rfl, ⟨c_2, rfl⟩ | ⟨c_2, rfl⟩⟩ := hq9
    · skip
      refine g_if_eq 24 rfl rfl (fun hc => absurd hc (by decide)) (fun _ => ?_)
      refine g_aload_n (i := 0) rfl rfl ?_
      refine g_iload_n (i := 3) rfl rfl ?_
      refine g_virt1 (Qc := fun r h' => h' = h ∧ (((∃ k, okO s.2.2 j k) ∧ r = some (.int 1)) ∨ (¬ (∃ k, okO s.2.2 j k) ∧ r = some (.int 0)))) rfl (by decide) rfl M.1 rfl (Nat.le_of_ble_eq_true rfl) (s_isOwn12 (by omega) M sJ) (fun r h hq9 => ?_)
      obtain ⟨rfl, ⟨c_3, rfl⟩ | ⟨c_3, rfl⟩⟩ := hq9
      · skip
        refine g_if_ne 30 rfl rfl (fun _ => ?_) (fun hc => absurd hc (by decide))
        refine g_aload_n (i := 0) rfl rfl ?_
        refine g_iload_n (i := 1) rfl rfl ?_
        refine g_iconst (n := 2) rfl ?_
        refine g_virt2 (Qc := fun r h' => h' = h ∧ r = some (.int 0)) rfl (by decide) rfl M.1 rfl (Nat.le_of_ble_eq_true rfl) (wt) (fun r h hq9 => ?_)
        obtain ⟨rfl, rfl⟩ := hq9
        refine g_istore (i := 4) (L1 := [some (.ref 60), some (.int sh), some (.int i), some (.int j), some (.int 0), none, none, none, none, none, none, none]) rfl (Nat.le_of_ble_eq_true rfl) rfl ?_
        refine g_iconst (n := 0) rfl ?_
        refine g_istore (i := 5) (L1 := [some (.ref 60), some (.int sh), some (.int i), some (.int j), some (.int 0), some (.int (Int32.ofInt 0)), none, none, none, none, none, none]) rfl (Nat.le_of_ble_eq_true rfl) rfl ?_
        refine g_iload (i := 4) rfl rfl ?_
        refine g_if_eq 53 rfl rfl (fun _ => ?_) (fun hc => absurd hc (by decide))
        refine g_aload_n (i := 0) rfl rfl ?_
        refine g_aload_n (i := 0) rfl rfl ?_
        refine g_getfield (v := .ref 70) rfl M.1 (by decide) rfl ?_
        refine g_iload_n (i := 1) rfl rfl ?_
        refine g_iaload (n := 8) (f := co) rfl a7 (i_in (by omega) (by omega)) ?_
        rw [i_nat hs]
        refine g_iconst (n := 0) rfl ?_
        refine g_virt2 rfl (by decide) rfl M.1 rfl (Nat.le_of_ble_eq_true rfl) (s_sideOf12 (d := d - 1) (side := Int32.ofInt 0) (by omega) M.1 gM hC hc) (fun r9 h hq9 => ?_)
        obtain ⟨rfl, rfl⟩ := hq9
        show sGo none 217 _ 64 [some (.ref 60), some (.int sh), some (.int i), some (.int j), some (.int 0), some (.int (Int32.ofInt 0)), none, none, none, none, none, none] [.long (sdS s.1 (s.1 * s.2.1) C 0)] _ _
        refine g_lstore (i := 6) (L1 := [some (.ref 60), some (.int sh), some (.int i), some (.int j), some (.int 0), some (.int (Int32.ofInt 0)), some (.long (sdS s.1 (s.1 * s.2.1) C 0)), none, none, none, none, none]) rfl (Nat.le_of_ble_eq_true rfl) rfl ?_
        refine g_aload_n (i := 0) rfl rfl ?_
        refine g_aload_n (i := 0) rfl rfl ?_
        refine g_getfield (v := .ref 70) rfl M.1 (by decide) rfl ?_
        refine g_iload_n (i := 1) rfl rfl ?_
        refine g_iaload (n := 8) (f := co) rfl a7 (i_in (by omega) (by omega)) ?_
        rw [i_nat hs]
        refine g_iconst (n := 2) rfl ?_
        refine g_virt2 rfl (by decide) rfl M.1 rfl (Nat.le_of_ble_eq_true rfl) (s_sideOf12 (d := d - 1) (side := Int32.ofInt 2) (by omega) M.1 gM hC hc) (fun r9 h hq9 => ?_)
        obtain ⟨rfl, rfl⟩ := hq9
        show sGo none 217 _ 77 [some (.ref 60), some (.int sh), some (.int i), some (.int j), some (.int 0), some (.int (Int32.ofInt 0)), some (.long (sdS s.1 (s.1 * s.2.1) C 0)), none, none, none, none, none] [.long (sdS s.1 (s.1 * s.2.1) C 2)] _ _
        refine g_lstore (i := 8) (L1 := [some (.ref 60), some (.int sh), some (.int i), some (.int j), some (.int 0), some (.int (Int32.ofInt 0)), some (.long (sdS s.1 (s.1 * s.2.1) C 0)), none, some (.long (sdS s.1 (s.1 * s.2.1) C 2)), none, none, none]) rfl (Nat.le_of_ble_eq_true rfl) rfl ?_
        refine g_iconst (n := 0) rfl ?_
        refine g_istore (i := 10) (L1 := [some (.ref 60), some (.int sh), some (.int i), some (.int j), some (.int 0), some (.int (Int32.ofInt 0)), some (.long (sdS s.1 (s.1 * s.2.1) C 0)), none, some (.long (sdS s.1 (s.1 * s.2.1) C 2)), none, some (.int (Int32.ofInt 0)), none]) rfl (Nat.le_of_ble_eq_true rfl) rfl ?_
        have e0 : h = (h.set 63 (.inl (0, 64, .inl (fun q => if q < 0 then (lyO s.1 C i j) q else m.2.2.1 q)))) := List.ext_getElem? (fun z => by
          by_cases e : z = 63
          · rw [e, s_set_eq M.2.2.1, M.2.2.1]
            exact congrArg (fun f => (some (.inl (0, 64, .inl f)) : Option va_E)) (funext fun q => (if_neg (Nat.not_lt_zero q)).symm)
          · rw [s_set_ne (Ne.symm e)])
        have key := s_lay12_go (d := d - 1) (sh := sh) (i := i) (j := j) (C := C) (by omega) M gM (s.1 * s.2.1) 0 none (Nat.zero_add _)
        rw [← e0] at key
        exact key
      · skip
        exact absurd h2 c_3
    · skip
      exact absurd h1 c_2
  · skip
    omega
theorem s_lay12n {d : Nat} {h : sHp} {R : Nat → Int32} {m : MF} {s : Sg} {sh i j b : Int32} {B : Nat} (hd : 4 ≤ d) (M : MC h m) (hR : h[61]? = some (rFc R)) (sJ : sgJ m.1 s) (wt : (0 ≤ sh.toInt ∧ sh.toInt < 8) → sDo (d - 1) 184 [.ref 60, .int sh, .int (Int32.ofInt 2)] h (fun r h' => h' = h ∧ r = some (.int b))) (hx : (¬ (0 ≤ sh.toInt ∧ sh.toInt < 8) ∨ ¬ (∃ k, okO s.2.2 i k) ∨ ¬ (∃ k, okO s.2.2 j k)) ∧ B = 1 ∨ ((0 ≤ sh.toInt ∧ sh.toInt < 8) ∧ (∃ k, okO s.2.2 i k) ∧ (∃ k, okO s.2.2 j k)) ∧ b.toInt = -(B : Int) ∧ 1 ≤ B ∧ B ≤ 7) : sDo d 217 [.ref 60, .int sh, .int i, .int j] h (fun r h' => (∃ v : Int32, v.toInt = -(B : Int) ∧ r = some (.int v)) ∧ h' = h.set 61 (rFc (bump R B))) := by
  refine sDo_of1 (nL := 12) (L := [some (.ref 60), some (.int sh), some (.int i), some (.int j), none, none, none, none, none, none, none, none]) (by omega) rfl rfl ?_
  refine g_aload_n (i := 0) rfl rfl ?_
  refine g_iload_n (i := 1) rfl rfl ?_
  refine g_virt1 (Qc := fun r h' => h' = h ∧ (((0 ≤ sh.toInt ∧ sh.toInt < 8) ∧ r = some (.int 1)) ∨ (¬ (0 ≤ sh.toInt ∧ sh.toInt < 8) ∧ r = some (.int 0)))) rfl (by decide) rfl M.1 rfl (Nat.le_of_ble_eq_true rfl) (s_sh12z (by omega)) (fun r h hq9 => ?_)
  obtain ⟨rfl, ⟨c_1, rfl⟩ | ⟨c_1, rfl⟩⟩ := hq9
  · skip
    refine g_if_eq 24 rfl rfl (fun hc => absurd hc (by decide)) (fun _ => ?_)
    refine g_aload_n (i := 0) rfl rfl ?_
    refine g_iload_n (i := 2) rfl rfl ?_
    refine g_virt1 (Qc := fun r h' => h' = h ∧ (((∃ k, okO s.2.2 i k) ∧ r = some (.int 1)) ∨ (¬ (∃ k, okO s.2.2 i k) ∧ r = some (.int 0)))) rfl (by decide) rfl M.1 rfl (Nat.le_of_ble_eq_true rfl) (s_isOwn12 (by omega) M sJ) (fun r h hq9 => ?_)
    obtain ⟨rfl, ⟨c_2, rfl⟩ | ⟨c_2, rfl⟩⟩ := hq9
    · skip
      refine g_if_eq 24 rfl rfl (fun hc => absurd hc (by decide)) (fun _ => ?_)
      refine g_aload_n (i := 0) rfl rfl ?_
      refine g_iload_n (i := 3) rfl rfl ?_
      refine g_virt1 (Qc := fun r h' => h' = h ∧ (((∃ k, okO s.2.2 j k) ∧ r = some (.int 1)) ∨ (¬ (∃ k, okO s.2.2 j k) ∧ r = some (.int 0)))) rfl (by decide) rfl M.1 rfl (Nat.le_of_ble_eq_true rfl) (s_isOwn12 (by omega) M sJ) (fun r h hq9 => ?_)
      obtain ⟨rfl, ⟨c_3, rfl⟩ | ⟨c_3, rfl⟩⟩ := hq9
      · skip
        refine g_if_ne 30 rfl rfl (fun _ => ?_) (fun hc => absurd hc (by decide))
        refine g_aload_n (i := 0) rfl rfl ?_
        refine g_iload_n (i := 1) rfl rfl ?_
        refine g_iconst (n := 2) rfl ?_
        have hB : b.toInt = -(B : Int) ∧ 1 ≤ B ∧ B ≤ 7 := by
          rcases hx with ⟨y, -⟩ | ⟨-, y⟩
          · rcases y with y | y | y
            · exact absurd c_1 y
            · exact absurd c_2 y
            · exact absurd c_3 y
          · exact y
        have nb : ¬ b = 0 := fun z => by
          have y := hB
          rw [z] at y
          have e0 : (0 : Int32).toInt = 0 := rfl
          omega
        refine g_virt2 (Qc := fun r h' => h' = h ∧ r = some (.int b)) rfl (by decide) rfl M.1 rfl (Nat.le_of_ble_eq_true rfl) (wt c_1) (fun r h hq9 => ?_)
        obtain ⟨rfl, rfl⟩ := hq9
        refine g_istore (i := 4) (L1 := [some (.ref 60), some (.int sh), some (.int i), some (.int j), some (.int b), none, none, none, none, none, none, none]) rfl (Nat.le_of_ble_eq_true rfl) rfl ?_
        refine g_iconst (n := 0) rfl ?_
        refine g_istore (i := 5) (L1 := [some (.ref 60), some (.int sh), some (.int i), some (.int j), some (.int b), some (.int (Int32.ofInt 0)), none, none, none, none, none, none]) rfl (Nat.le_of_ble_eq_true rfl) rfl ?_
        refine g_iload (i := 4) rfl rfl ?_
        refine g_if_eq 53 rfl rfl (fun hc => absurd hc (by exact nb)) (fun _ => ?_)
        refine g_aload_n (i := 0) rfl rfl ?_
        refine g_iload (i := 4) rfl rfl ?_
        refine g_virt1 (Qc := fun r h' => r = some (.int b) ∧ h' = h.set 61 (rFc (bump R B))) rfl (by decide) rfl M.1 rfl (Nat.le_of_ble_eq_true rfl) (s_no2 (X := B) (by omega) M.1 hR hB.1 hB.2) (fun r h9 hq9 => ?_)
        obtain ⟨rfl, rfl⟩ := hq9
        refine g_ireturn (ty := .int) rfl rfl rfl ?_
        exact ⟨⟨_, hB.1, rfl⟩, rfl⟩
      · skip
        refine g_if_ne 30 rfl rfl (fun hc => absurd hc (by decide)) (fun _ => ?_)
        refine g_aload_n (i := 0) rfl rfl ?_
        refine g_iconst (n := (-1)) rfl ?_
        have hB : B = 1 := by
          rcases hx with ⟨-, y⟩ | ⟨y, -⟩
          · exact y
          · exact False.elim (c_3 y.2.2)
        subst hB
        refine g_virt1 (Qc := fun r h' => r = some (.int (Int32.ofInt (-1))) ∧ h' = h.set 61 (rFc (bump R 1))) rfl (by decide) rfl M.1 rfl (Nat.le_of_ble_eq_true rfl) (s_no2 (X := 1) (by omega) M.1 hR rfl (by decide)) (fun r h9 hq9 => ?_)
        obtain ⟨rfl, rfl⟩ := hq9
        refine g_ireturn (ty := .int) rfl rfl rfl ?_
        exact ⟨⟨_, rfl, rfl⟩, rfl⟩
    · skip
      refine g_if_eq 24 rfl rfl (fun _ => ?_) (fun hc => absurd hc (by decide))
      refine g_aload_n (i := 0) rfl rfl ?_
      refine g_iconst (n := (-1)) rfl ?_
      have hB : B = 1 := by
        rcases hx with ⟨-, y⟩ | ⟨y, -⟩
        · exact y
        · exact False.elim (c_2 y.2.1)
      subst hB
      refine g_virt1 (Qc := fun r h' => r = some (.int (Int32.ofInt (-1))) ∧ h' = h.set 61 (rFc (bump R 1))) rfl (by decide) rfl M.1 rfl (Nat.le_of_ble_eq_true rfl) (s_no2 (X := 1) (by omega) M.1 hR rfl (by decide)) (fun r h9 hq9 => ?_)
      obtain ⟨rfl, rfl⟩ := hq9
      refine g_ireturn (ty := .int) rfl rfl rfl ?_
      exact ⟨⟨_, rfl, rfl⟩, rfl⟩
  · skip
    refine g_if_eq 24 rfl rfl (fun _ => ?_) (fun hc => absurd hc (by decide))
    refine g_aload_n (i := 0) rfl rfl ?_
    refine g_iconst (n := (-1)) rfl ?_
    have hB : B = 1 := by
      rcases hx with ⟨-, y⟩ | ⟨y, -⟩
      · exact y
      · exact False.elim (c_1 y.1)
    subst hB
    refine g_virt1 (Qc := fun r h' => r = some (.int (Int32.ofInt (-1))) ∧ h' = h.set 61 (rFc (bump R 1))) rfl (by decide) rfl M.1 rfl (Nat.le_of_ble_eq_true rfl) (s_no2 (X := 1) (by omega) M.1 hR rfl (by decide)) (fun r h9 hq9 => ?_)
    obtain ⟨rfl, rfl⟩ := hq9
    refine g_ireturn (ty := .int) rfl rfl rfl ?_
    exact ⟨⟨_, rfl, rfl⟩, rfl⟩
theorem negB {B : Nat} (h : B ≤ 7) : (-(Int32.ofNat B)).toInt = -(B : Int) := by
  rw [i_neg (by rw [ofN_toInt (by omega)]; omega), ofN_toInt (by omega)]
theorem negB_of {B : Nat} {v : Int32} (h : B ≤ 7) (e : v.toInt = -(B : Int)) : v = -(Int32.ofNat B) := Int32.toInt_inj.mp (e.trans (negB h).symm)
theorem pr9_lay (sh : Int32) (i : Int32) (j : Int32) : pairR bR9 134 217 [.int sh, .int i, .int j] := pr_wR (c1 := cn_X11_lay_0) (c2 := cn_X12_lay_0) ch_X11_lay_0 ch_X12_lay_0 (by decide +kernel) (by decide +kernel) (by decide +kernel) (by decide +kernel) rfl rfl (fun h hH => ⟨bt0 hH, vI0 sh, vI0 i, vI0 j, trivial⟩) (fun h hH => ⟨bt60 hH, vI0 sh, vI0 i, vI0 j, trivial⟩) (by decide +kernel) (by decide +kernel) (fun h hH hR => by
  obtain ⟨⟨hd, so, sz, co, cl, f, gg, q4, bs⟩, c, ck, m, gk, ik, tf, kc, km, ej, rl, rk⟩ := hR
  have F := kc.1
  have h0 := kc.2.2.1
  have M := km.1
  obtain ⟨R, hR43⟩ := RA_of hH (p := 43) (Or.inl rfl)
  obtain ⟨s, sI, sJ, g, gM⟩ := RN_sg rl.1.1
  have n5 := sI.2.2.2.2.2.2.2
  have hn := gdF_n g
  have PO := rl.2 s sI
  have gd := gM
  obtain ⟨-, -, w2, w8, -, h8⟩ := gd
  obtain ⟨T, s42⟩ : ∃ T : Nat → Int64, h[42]? = some (.inl (1, 7, .inr (.inl T))) := bA60L hH (p := 42) (by decide) rfl
  have q4' := q4
  obtain ⟨a1, a2, a3, a4, a5, a6, a7, a8⟩ := q4'
  have refd : ∀ (b : Int32) (B : Nat), sDo 9 162 [.ref 0, .int sh] h (fun r h' => h' = h ∧ r = some (.int b)) → ((0 ≤ sh.toInt ∧ sh.toInt < 8) → ∀ h1, bH h1 → vO h h1 → sDo 9 184 [.ref 60, .int sh, .int (Int32.ofInt 2)] h1 (fun r h' => h' = h1 ∧ r = some (.int b))) → (b.toInt = -1 ↔ ¬ (0 ≤ sh.toInt ∧ sh.toInt < 8)) → B ≤ 7 → ((b.toInt = -1 ∨ ¬ (∃ k, okO s.2.2 i k) ∨ ¬ (∃ k, okO s.2.2 j k)) ∧ B = 1 ∨ (¬ b.toInt = -1 ∧ (∃ k, okO s.2.2 i k) ∧ (∃ k, okO s.2.2 j k)) ∧ b.toInt = -(B : Int) ∧ 1 ≤ B ∧ B ≤ 7) → ∃ (v : Value) (S' : Nat → Int64) (ow' : Nat → Int32), (∀ c m s, RO c m → FC h 5 c → MC h m → sgI c s → PT S' ow' (s.1 * s.2.1)) ∧ sDo 10 134 [.ref 0, .int sh, .int i, .int j] h (fun r h1 => r = some v ∧ h1[15]? = some (.inl (1, 7, .inr (.inl S'))) ∧ vO h h1) ∧ ∀ h1, bH h1 → vO h h1 → sDo 10 217 [.ref 60, .int sh, .int i, .int j] h1 (fun r h2 => r = some v ∧ h2[63]? = some (.inl (0, 64, .inl ow'))) := by
    intro b B hno wt hb hB7 hx
    refine ⟨.int (-(Int32.ofNat B)), c.2.2.2.2.2.2, m.2.2.1, fun c' m' s' r' F' M' sI' => ?_, sDo_mono (s_lay11n (d := 10) (by omega) h0 hR43 F sI hno hx) (fun r h' q => ?_), fun h1 hH1 E => ?_⟩
    · have P' := r'.2 s' sI'
      rw [FC_one F F', MC_one M M'] at P'
      exact P'
    · obtain ⟨⟨v, e, rfl⟩, rfl⟩ := q
      exact ⟨by rw [negB_of hB7 e], by rw [s_set_ne (by decide)]; exact F.2.2.2.2.2.2, vO_43 vO_rfl (by decide)⟩
    · obtain ⟨Rm, hRm⟩ := RA_of hH1 (p := 61) (Or.inr rfl)
      refine sDo_mono (s_lay12n (B := B) (d := 10) (by omega) (MC_vO M E) hRm sJ (fun z => wt z h1 hH1 E) ?_) (fun r h' q => ?_)
      · rcases hx with ⟨y, e⟩ | ⟨y, e⟩
        · exact Or.inl ⟨y.imp hb.mp id, e⟩
        · exact Or.inr ⟨⟨Classical.byContradiction (fun z => y.1 (hb.mpr z)), y.2⟩, e⟩
      · obtain ⟨⟨v, e, rfl⟩, rfl⟩ := q
        exact ⟨by rw [negB_of hB7 e], by rw [s_set_ne (by decide)]; exact (MC_vO M E).2.2.1⟩
  have em : (-1 : Int32).toInt = -1 := rfl
  by_cases hS : 0 ≤ sh.toInt ∧ sh.toInt < 8
  · obtain ⟨S, hs⟩ : ∃ S : Nat, sh.toInt = S := ⟨sh.toInt.toNat, by omega⟩
    have hno := s_noCutIn (d := 9) (by omega) h0 q4 bs hs (by omega)
    have wt : ∀ h1, bH h1 → vO h h1 → sDo 9 184 [.ref 60, .int sh, .int (Int32.ofInt 2)] h1 (fun r h' => h' = h1 ∧ r = some (.int (ncS hd S))) := fun h1 hH1 E => sDo_mono (s_wantsE (d := 9) (w := Int32.ofInt 2) (by omega) (vO_at E M.1 (by decide)) (vO_at E a4 (by decide)) (Or.inr rfl)) (fun r h' q => ⟨q.1, by
      rcases q.2 with ⟨-, q2⟩ | ⟨y, -⟩
      · rw [q2, show sh.toInt.toNat = S by omega]
        unfold wtS ncS
        rcases hd_3 (bs S (by omega)) with e | e | e
        · rw [e]; rfl
        · rw [e]; rfl
        · rw [e]; rfl
      · exact absurd hS y⟩)
    by_cases h2 : hd S = 2
    · obtain ⟨pc, C, hpc, hg, a, hc, hx⟩ := cut_at (bs S (by omega)) h2
      have e0 : ncS hd S = 0 := by unfold ncS; rw [if_pos h2]
      rw [e0] at hno wt
      by_cases ho : (∃ k, okO s.2.2 i k) ∧ (∃ k, okO s.2.2 j k)
      · obtain ⟨⟨k1, o1⟩, ⟨k2, o2⟩⟩ := ho
        have PL := PT_lay (W := s.1) (n := s.1 * s.2.1) (C := C) (T := zrF T 7) hn.1 n5 (fun k hk => if_pos hk) o1 o2
        have PL2 : PT (cpL (lyT (zrF T 7) s.1 (s.1 * s.2.1) C k1 k2) c.2.2.2.2.2.2 7) (fun q => if q < s.1 * s.2.1 then lyO s.1 C i j q else m.2.2.1 q) (s.1 * s.2.1) := PT_ext hn.1 (fun k hk => if_pos hk) (fun q hq => if_pos hq) PL
        refine ⟨_, cpL (lyT (zrF T 7) s.1 (s.1 * s.2.1) C k1 k2) c.2.2.2.2.2.2 7, (fun q => if q < s.1 * s.2.1 then lyO s.1 C i j q else m.2.2.1 q), fun c' m' s' r' F' M' sI' => ?_, sDo_mono (s_lay11 (d := 10) (by omega) h0 F g sI a3 hs (by omega) hg hc a hpc hx hno o1 o2 s42) (fun r h' q => ⟨q.1, by rw [q.2]; exact s_set_eq (by rw [s_set_ne (by decide)]; exact F.2.2.2.2.2.2), by rw [q.2]; exact vO_15 (vO_43 vO_rfl (by decide))⟩), fun h1 hH1 E => sDo_mono (s_lay12 (d := 10) (by omega) (MC_vO M E) gM sJ (vO_at E a7 (by decide)) hs (by omega) hx hc (wt h1 hH1 E) ⟨k1, o1⟩ ⟨k2, o2⟩) (fun r h' q => ⟨?_, by rw [q.2]; exact s_set_eq (MC_vO M E).2.2.1⟩)⟩
        · rw [sg_one F F' sI sI']
          exact PL2
        · rw [q.1, tk_ch hn.1 PO PL]
      · refine refd 0 1 hno (fun _ h1 hH1 E => wt h1 hH1 E) ⟨fun z => absurd z (by decide), fun z => absurd hS z⟩ (by decide) (Or.inl ⟨Or.inr (Classical.byContradiction (fun z => ho ⟨Classical.byContradiction (fun y => z (Or.inl y)), Classical.byContradiction (fun y => z (Or.inr y))⟩)), rfl⟩)
    · obtain ⟨B, hB, eB⟩ := nc_b (hd := hd) (S := S) (by
        rcases hd_3 (bs S (by omega)) with e | e | e
        · exact Or.inl e
        · exact Or.inr e
        · exact absurd e h2)
      have hb1 : (ncS hd S).toInt = -1 ↔ ¬ (0 ≤ sh.toInt ∧ sh.toInt < 8) := ⟨fun z => by omega, fun z => absurd hS z⟩
      by_cases ho : (∃ k, okO s.2.2 i k) ∧ (∃ k, okO s.2.2 j k)
      · exact refd _ B hno (fun _ h1 hH1 E => wt h1 hH1 E) hb1 (by omega) (Or.inr ⟨⟨by omega, ho.1, ho.2⟩, eB, by omega, by omega⟩)
      · exact refd _ 1 hno (fun _ h1 hH1 E => wt h1 hH1 E) hb1 (by decide) (Or.inl ⟨Or.inr (Classical.byContradiction (fun z => ho ⟨Classical.byContradiction (fun y => z (Or.inl y)), Classical.byContradiction (fun y => z (Or.inr y))⟩)), rfl⟩)
  · exact refd (-1) 1 (s_noCutOX (d := 7) hS) (fun z => absurd z hS) ⟨fun _ => hS, fun _ => em⟩ (by decide) (Or.inl ⟨Or.inl em, rfl⟩))
end
