/-! ===== pairs of calls ===== -/
def bPair (k1 k2 : Nat) (as : List Value) : Prop := ∀ h, bH h → bR5 h → sDo 10 k1 (.ref 0 :: as) h (fun r1 h1 => bH h1 ∧ h1.length ≤ h.length + 1 ∧ sDo 10 k2 (.ref 60 :: as) h1 (fun r2 h2 => bH h2 ∧ h2.length ≤ h1.length + 1 ∧ bR5 h2 ∧ ∃ x, r1 = some x ∧ r2 = some x))
theorem pr_use {c : bCn} {vs : List Value} (hc : bHolds c) (hd : Nat.ble c.2.1 10 = true) (hg : Nat.ble c.2.2.2.2.2.1 1 = true) (ho : c.2.2.2.1 = []) {h : sHp} (hH : bH h) (ht : bTl h c.2.2.1 vs) : sDo 10 c.1 vs h (fun _ h' => bH h' ∧ h'.length ≤ h.length + 1) := by
  refine sDo_up (Nat.le_of_ble_eq_true hd) (sDo_mono (hc h vs hH ht (by rw [ho]; exact fun e he => by cases he)) (fun r h' hen => ⟨hen.1, ?_⟩))
  have := hen.2.1.2.1
  have := Nat.le_of_ble_eq_true hg
  omega
theorem pair_of {k1 k2 : Nat} {as : List Value} (P : sHp → sHp → Value → Prop) (c1 : ∀ h, bH h → sDo 10 k1 (.ref 0 :: as) h (fun _ h' => bH h' ∧ h'.length ≤ h.length + 1)) (c2 : ∀ h, bH h → sDo 10 k2 (.ref 60 :: as) h (fun _ h' => bH h' ∧ h'.length ≤ h.length + 1)) (e1 : ∀ h, bH h → bR5 h → sDo 10 k1 (.ref 0 :: as) h (fun r h' => ∃ x, r = some x ∧ P h h' x)) (e2 : ∀ h h1 x, bH h → bH h1 → P h h1 x → sDo 10 k2 (.ref 60 :: as) h1 (fun r h' => r = some x ∧ bR5 h')) : bPair k1 k2 as := by
  intro h hH hR
  refine sDo_mono (sDo_and (c1 h hH) (e1 h hH hR)) (fun r1 h1 q => ?_)
  obtain ⟨⟨q1, q2⟩, x, rfl, q3⟩ := q
  exact ⟨q1, q2, sDo_mono (sDo_and (c2 h1 q1) (e2 h h1 x hH q1 q3)) (fun r2 h2 z => ⟨z.1.1, z.1.2, z.2.2, x, rfl, z.2.1⟩)⟩
theorem vI0 {h : sHp} (x : Int32) : bT h (.inl (.negSucc 2147483647, .ofNat 2147483647)) (.int x) := ⟨x, rfl, (aFull_ok x).1, (aFull_ok x).2⟩
theorem vL0 {h : sHp} (x : Int64) : bT h (.inr (0, 0)) (.long x) := ⟨x, rfl⟩
theorem u_at {f : Nat → Int32} {k : Nat} {x : Int32} : upd f k x k = x := if_pos rfl
theorem u_ne {f : Nat → Int32} {k j : Nat} {x : Int32} (h : j ≠ k) : upd f k x j = f j := if_neg h
/-- the answers of a call refused at once -/
def pOut (x : Int32) (h h' : sHp) (y : Value) : Prop := y = .int x ∧ bR5 h ∧ ∃ R, h' = h.set 43 (.inl (0, 8, .inl R))
theorem pOut_R {x : Int32} {h h' : sHp} {y : Value} (q : pOut x h h' y) : bR5 h' := by
  obtain ⟨-, q1, R, rfl⟩ := q
  exact bR5_set q1 (by decide) (by decide) (by decide) (by decide) (by decide)
theorem no_R {h : sHp} {R : Nat → Int32} (q : bR5 h) : bR5 (h.set 61 (.inl (0, 8, .inl R))) := bR5_set q (by decide) (by decide) (by decide) (by decide) (by decide)
/-! row -/
theorem s_renew_go {d : Nat} {h : sHp} {p ep : Nat} {so n : Int32} {el0 : Nat → Int64} {Q : Option Value → sHp → Prop} (hp : h[p]? = some (.inr (7, [.int so, .int n, .ref ep]))) (he : h[ep]? = some (.inl (1, 100, .inr (.inl el0)))) (hne : p ≠ ep) (n1 : n.toInt ≤ 100) (hQ : ∀ el : Nat → Int64, (∀ i : Nat, (i : Int) < n.toInt → el i = 0) → Q none (h.set ep (.inl (1, 100, .inr (.inl el))))) : ∀ (N : Nat) (k : Int32) (el : Nat → Int64), 0 ≤ k.toInt → k.toInt ≤ 100 → (∀ i : Nat, (i : Int) < k.toInt → el i = 0) → (100 - k.toInt).toNat < N → sGo none 79 d 21 [some (.ref p), some (.int so), some (.int n), some (.int k)] [] (h.set ep (.inl (1, 100, .inr (.inl el)))) Q := by
  intro N
  induction N with
  | zero => intro k el _ _ _ hl; omega
  | succ N ih =>
    intro k el k0 k1 hk hl
    have e1 : (Int32.ofInt 1).toInt = 1 := rfl
    have hp2 : (h.set ep (.inl (1, 100, .inr (.inl el))))[p]? = some (.inr (7, [.int so, .int n, .ref ep])) := by rw [s_set_ne (Ne.symm hne)]; exact hp
    refine g_iload_n (i := 3) rfl rfl ?_
    refine g_aload_n (i := 0) rfl rfl ?_
    refine g_getfield (v := .int n) rfl hp2 (by decide) rfl ?_
    refine g_icmp_ge 42 rfl rfl (fun hc => ?_) (fun hc => ?_)
    · skip
      rw [i_le] at hc
      refine g_return rfl rfl ?_
      exact hQ el (fun i hi => hk i (by omega))
    · skip
      rw [i_le] at hc
      refine g_aload_n (i := 0) rfl rfl ?_
      refine g_getfield (v := .ref ep) rfl hp2 (by decide) rfl ?_
      refine g_iload_n (i := 3) rfl rfl ?_
      refine g_lconst (n := 0) rfl ?_
      refine g_lastore (h1 := h.set ep (.inl (1, 100, .inr (.inl (vp_updL el k.toNatClampNeg (Int64.ofNat 0)))))) rfl (s_set_eq he) (i_in (by omega) (by omega)) (List.set_set ..) ?_
      refine g_iinc (i := 3) (L1 := [some (.ref p), some (.int so), some (.int n), some (.int (k + Int32.ofInt 1))]) rfl rfl rfl ?_
      refine g_goto 21 rfl rfl ?_
      have kn : (k.toNatClampNeg : Int) = k.toInt := by
        show ((k.toInt.toNat : Nat) : Int) = k.toInt
        omega
      refine ih _ _ (by rw [i_add (by omega) (by omega)]; omega) (by rw [i_add (by omega) (by omega)]; omega) (fun i hi => ?_) (by rw [i_add (by omega) (by omega)]; omega)
      rw [i_add (by omega) (by omega), e1] at hi
      unfold vp_updL
      split
      · rfl
      · exact hk i (by omega)
theorem s_renew {d : Nat} {h : sHp} {p ep : Nat} {o z so n : Int32} {el : Nat → Int64} {Q : Option Value → sHp → Prop} (hp : h[p]? = some (.inr (7, [.int o, .int z, .ref ep]))) (he : h[ep]? = some (.inl (1, 100, .inr (.inl el)))) (hne : p ≠ ep) (n0 : 0 ≤ n.toInt) (n1 : n.toInt ≤ 100) (hQ : ∀ el : Nat → Int64, (∀ i : Nat, (i : Int) < n.toInt → el i = 0) → Q none ((h.set p (.inr (7, [.int so, .int n, .ref ep]))).set ep (.inl (1, 100, .inr (.inl el))))) : sDo (d + 1) 79 [.ref p, .int so, .int n] h Q := by
  have e0 : (Int32.ofInt 0).toInt = 0 := rfl
  have e100 : (Int8.ofInt 100).toInt32.toInt = 100 := rfl
  have hp1 : (h.set p (.inr (7, [.int so, .int z, .ref ep])))[p]? = some (.inr (7, [.int so, .int z, .ref ep])) := s_set_eq hp
  have hp2 : (h.set p (.inr (7, [.int so, .int n, .ref ep])))[p]? = some (.inr (7, [.int so, .int n, .ref ep])) := s_set_eq hp
  have he2 : (h.set p (.inr (7, [.int so, .int n, .ref ep])))[ep]? = some (.inl (1, 100, .inr (.inl el))) := by rw [s_set_ne hne]; exact he
  have hmin : (if (Int8.ofInt 100).toInt32 < n then (Int8.ofInt 100).toInt32 else n) = n := if_neg (by rw [i_lt, e100]; omega)
  have hmax : (if Int32.ofInt 0 < n then n else Int32.ofInt 0) = n := by
    by_cases z : Int32.ofInt 0 < n
    · exact if_pos z
    · rw [if_neg z]
      rw [i_lt, e0] at z
      exact Int32.toInt_inj.mp (by rw [e0]; omega)
  refine sDo_of (d := d) (nL := 4) (L := [some (.ref p), some (.int so), some (.int n), none]) rfl rfl ?_
  refine g_aload_n (i := 0) rfl rfl ?_
  refine g_iload_n (i := 1) rfl rfl ?_
  refine g_putfield (h1 := h.set p (.inr (7, [.int so, .int z, .ref ep]))) rfl hp (by decide) (Nat.le_of_ble_eq_true rfl) rfl rfl ?_
  refine g_aload_n (i := 0) rfl rfl ?_
  refine g_iconst (n := 0) rfl ?_
  refine g_iload_n (i := 2) rfl rfl ?_
  refine g_bipush (n := 100) rfl ?_
  refine g_min rfl (Nat.le_of_ble_eq_true rfl) ?_
  rw [hmin]
  refine g_max rfl (Nat.le_of_ble_eq_true rfl) ?_
  rw [hmax]
  refine g_putfield (h1 := h.set p (.inr (7, [.int so, .int n, .ref ep]))) rfl hp1 (by decide) (Nat.le_of_ble_eq_true rfl) rfl (List.set_set ..) ?_
  refine g_iconst (n := 0) rfl ?_
  refine g_istore_n (i := 3) (L1 := [some (.ref p), some (.int so), some (.int n), some (.int (Int32.ofInt 0))]) rfl (Nat.le_of_ble_eq_true rfl) rfl ?_
  have h0 := s_renew_go (d := d) hp2 he2 hne n1 hQ 101 (Int32.ofInt 0) el (by decide) (by decide) (fun i hi => by rw [e0] at hi; omega) (by decide)
  rw [s_set_self he2] at h0
  exact h0
def pRow (s so n : Int32) (S : Nat) (h h' : sHp) (y : Value) : Prop := y = .int 1 ∧ ∃ (hd so0 sz co : Nat → Int32) (cl : Nat → Int64) (f g : Nat → Option Nat) (el : Nat → Int64), bR4 h hd so0 sz co cl f g ∧ (∀ s, s < 8 → bRS hd so0 sz co cl g h s) ∧ (∀ i : Nat, (i : Int) < n.toInt → el i = 0) ∧ h' = ((h.set 2 (.inl (4, 8, .inr (.inr (.inr (.inr (va_up g S none))))))).set (44 + 2 * S) (.inr (7, [.int so, .int n, .ref (45 + 2 * S)]))).set (45 + 2 * S) (.inl (1, 100, .inr (.inl el)))
theorem s_row11 {h : sHp} {s so n : Int32} {S : Nat} (hH : bH h) (hR : bR5 h) (hs : s.toInt = S) (hS : S < 8) (o1 : 0 ≤ so.toInt) (o2 : so.toInt ≤ 3) (n0 : 0 ≤ n.toInt) (n1 : n.toInt ≤ 100) : sDo 10 114 [.ref 0, .int s, .int so, .int n] h (fun r h' => ∃ x, r = some x ∧ pRow s so n S h h' x) := by
  obtain ⟨hd, so0, sz, co, cl, f, g, q4, q5⟩ := hR
  have q4c := q4
  obtain ⟨ot, z, el, b1, b2, b3⟩ := q5 S hS
  obtain ⟨a1, a2, a3, a4, a5, a6, a7, a8⟩ := q4
  obtain ⟨fs, hf, -, hfs⟩ := bFldK hH (p := 0) (by decide) rfl
  obtain ⟨v0, f0, r0⟩ := hfs 0 _ rfl
  cases bT_one (by decide) (by decide +kernel) r0
  obtain ⟨v1, f1, r1⟩ := hfs 1 _ rfl
  cases bT_one (by decide) (by decide +kernel) r1
  have sn : s.toNatClampNeg = S := i_nat hs
  have fS : va_rf (f s.toNatClampNeg) = .ref (44 + 2 * S) := by rw [sn, a2 S hS]; rfl
  have e0 : (0 : Int32).toInt = 0 := rfl
  have e3 : (Int32.ofInt 3).toInt = 3 := rfl
  have e100 : (Int8.ofInt 100).toInt32.toInt = 100 := rfl
  refine sDo_of (d := 9) (nL := 4) (L := [some (.ref 0), some (.int s), some (.int so), some (.int n)]) rfl rfl ?_
  refine g_iload_n (i := 1) rfl rfl ?_
  refine g_static1 (Qc := fun r h' => h' = h ∧ r = some (.int 1)) rfl (by decide) rfl (Nat.le_of_ble_eq_true rfl) (s_sh11 (by rw [if_pos (by omega)])) (fun r h9 hq9 => ?_)
  obtain ⟨rfl, rfl⟩ := hq9
  refine g_if_ne 13 rfl rfl (fun _ => ?_) (fun hc => absurd hc (by decide))
  refine g_iload_n (i := 3) rfl rfl ?_
  refine g_if_ge 24 rfl rfl (fun _ => ?_) (fun hc => absurd hc (by rw [i_le, e0]; omega))
  refine g_iload_n (i := 2) rfl rfl ?_
  refine g_if_lt 33 rfl rfl (fun hc => absurd hc (by rw [i_lt, e0]; omega)) (fun _ => ?_)
  refine g_iload_n (i := 2) rfl rfl ?_
  refine g_iconst (n := 3) rfl ?_
  refine g_icmp_le 40 rfl rfl (fun _ => ?_) (fun hc => absurd hc (by rw [i_le, e3]; omega))
  refine g_iload_n (i := 3) rfl rfl ?_
  refine g_bipush (n := 100) rfl ?_
  refine g_icmp_le 53 rfl rfl (fun _ => ?_) (fun hc => absurd hc (by rw [i_le, e100]; omega))
  refine g_aload_n (i := 0) rfl rfl ?_
  refine g_getfield (v := .ref 2) rfl hf (by decide) f1 ?_
  refine g_iload_n (i := 1) rfl rfl ?_
  refine g_aconst_null rfl ?_
  refine g_aastoreN rfl a3 (by decide) (i_in (by omega) (by omega)) rfl ?_
  rw [sn]
  have hf1 : (h9.set 2 (.inl (4, 8, .inr (.inr (.inr (.inr (va_up g S none)))))))[0]? = some (.inr (11, fs)) := by rw [s_set_ne (by decide)]; exact hf
  have a11 : (h9.set 2 (.inl (4, 8, .inr (.inr (.inr (.inr (va_up g S none)))))))[1]? = some (.inl (3, 8, .inr (.inr (.inr (.inr f))))) := by rw [s_set_ne (by decide)]; exact a1
  have b11 : (h9.set 2 (.inl (4, 8, .inr (.inr (.inr (.inr (va_up g S none)))))))[44 + 2 * S]? = some (.inr (7, [.int ot, .int z, .ref (45 + 2 * S)])) := by rw [s_set_ne (by omega)]; exact b1
  have b21 : (h9.set 2 (.inl (4, 8, .inr (.inr (.inr (.inr (va_up g S none)))))))[45 + 2 * S]? = some (.inl (1, 100, .inr (.inl el))) := by rw [s_set_ne (by omega)]; exact b2
  refine g_aload_n (i := 0) rfl rfl ?_
  refine g_getfield (v := .ref 1) rfl hf1 (by decide) f0 ?_
  refine g_iload_n (i := 1) rfl rfl ?_
  refine g_aaload rfl a11 (by decide) (i_in (by omega) (by omega)) ?_
  rw [fS]
  refine g_iload_n (i := 2) rfl rfl ?_
  refine g_iload_n (i := 3) rfl rfl ?_
  refine g_virt2 (Qc := fun r h' => r = none ∧ ∃ el' : Nat → Int64, (∀ i : Nat, (i : Int) < n.toInt → el' i = 0) ∧ h' = ((List.set h9 2 (.inl (4, 8, .inr (.inr (.inr (.inr (va_up g S none))))))).set (44 + 2 * S) (.inr (7, [.int so, .int n, .ref (45 + 2 * S)]))).set (45 + 2 * S) (.inl (1, 100, .inr (.inl el')))) rfl (by decide) rfl b11 rfl (Nat.le_of_ble_eq_true rfl) (s_renew b11 b21 (by omega) n0 n1 (fun el' hel => ⟨rfl, el', hel, rfl⟩)) (fun r h8 hq8 => ?_)
  obtain ⟨rfl, el', hel, rfl⟩ := hq8
  refine g_iconst (n := 1) rfl ?_
  refine g_ireturn (ty := .int) rfl rfl rfl ?_
  exact ⟨_, rfl, rfl, hd, so0, sz, co, cl, f, g, el', q4c, q5, hel, rfl⟩
def zr (cl : Nat → Int64) (S k : Nat) : Nat → Int64 := fun j => if 100 * S ≤ j ∧ j < 100 * S + k then 0 else cl j
theorem zr_0 (cl : Nat → Int64) (S : Nat) : zr cl S 0 = cl := funext fun j => by
  unfold zr
  rw [if_neg (by omega)]
theorem zr_s (cl : Nat → Int64) (S k : Nat) : vp_updL (zr cl S k) (100 * S + k) (Int64.ofNat 0) = zr cl S (k + 1) := funext fun j => by
  unfold vp_updL zr
  by_cases e : j = 100 * S + k
  · rw [if_pos e, if_pos (by omega)]; rfl
  · rw [if_neg e]
    by_cases e2 : 100 * S ≤ j ∧ j < 100 * S + k
    · rw [if_pos e2, if_pos (by omega)]
    · rw [if_neg e2, if_neg (by omega)]
theorem s_row12_go {d : Nat} {h : sHp} {s so n : Int32} {S : Nat} {fs : List Value} {cl : Nat → Int64} {Q : Option Value → sHp → Prop} (hf : h[60]? = some (.inr (12, fs))) (f18 : fs[18]? = some (.ref 71)) (a8 : h[71]? = some (.inl (1, 800, .inr (.inl cl)))) (hs : s.toInt = S) (hS : S < 8) (hQ : Q (some (.int 1)) (h.set 71 (.inl (1, 800, .inr (.inl (zr cl S 100)))))) : ∀ (N : Nat) (k : Int32) (K : Nat), k.toInt = K → K ≤ 100 → 100 - K < N → sGo none 178 d 78 [some (.ref 60), some (.int s), some (.int so), some (.int n), some (.int k)] [] (h.set 71 (.inl (1, 800, .inr (.inl (zr cl S K))))) Q := by
  intro N
  induction N with
  | zero => intro k K _ _ hl; omega
  | succ N ih =>
    intro k K hk hK hl
    have e1 : (Int32.ofInt 1).toInt = 1 := rfl
    have e100 : (Int8.ofInt 100).toInt32.toInt = 100 := rfl
    have hf2 : (h.set 71 (.inl (1, 800, .inr (.inl (zr cl S K)))))[60]? = some (.inr (12, fs)) := by rw [s_set_ne (by decide)]; exact hf
    refine g_iload (i := 4) rfl rfl ?_
    refine g_bipush (n := 100) rfl ?_
    refine g_icmp_ge 104 rfl rfl (fun hc => ?_) (fun hc => ?_)
    · skip
      rw [i_le, e100] at hc
      have hK2 : K = 100 := by omega
      subst hK2
      refine g_iconst (n := 1) rfl ?_
      refine g_ireturn (ty := .int) rfl rfl rfl ?_
      exact hQ
    · skip
      rw [i_le, e100] at hc
      have m1 : ((Int8.ofInt 100).toInt32 * s).toInt = 100 * S := by rw [i_mul (by rw [e100]; omega) (by rw [e100]; omega), e100, hs]
      have m2 : ((Int8.ofInt 100).toInt32 * s + k).toInt = ((100 * S + K : Nat) : Int) := by rw [i_add (by rw [m1]; omega) (by rw [m1]; omega), m1, hk]; omega
      refine g_aload_n (i := 0) rfl rfl ?_
      refine g_getfield (v := .ref 71) rfl hf2 (by decide) f18 ?_
      refine g_bipush (n := 100) rfl ?_
      refine g_iload_n (i := 1) rfl rfl ?_
      refine g_imul rfl ?_
      refine g_iload (i := 4) rfl rfl ?_
      refine g_iadd rfl ?_
      refine g_lconst (n := 0) rfl ?_
      refine g_lastore (h1 := h.set 71 (.inl (1, 800, .inr (.inl (zr cl S (K + 1)))))) rfl (s_set_eq a8) (i_in (by omega) (by omega)) (by rw [i_nat m2, List.set_set]; exact congrArg (fun e => h.set 71 (.inl (1, 800, .inr (.inl e)))) (zr_s cl S K)) ?_
      refine g_iinc (i := 4) (L1 := [some (.ref 60), some (.int s), some (.int so), some (.int n), some (.int (k + Int32.ofInt 1))]) rfl rfl rfl ?_
      refine g_goto 78 rfl rfl ?_
      exact ih _ (K + 1) (by rw [i_add (by omega) (by omega)]; omega) (by omega) (by omega)
theorem s_row12 {h h1 : sHp} {s so n : Int32} {S : Nat} {x : Value} (hH : bH h1) (hP : pRow s so n S h h1 x) (hs : s.toInt = S) (hS : S < 8) (o1 : 0 ≤ so.toInt) (o2 : so.toInt ≤ 3) (n0 : 0 ≤ n.toInt) (n1 : n.toInt ≤ 100) : sDo 10 178 [.ref 60, .int s, .int so, .int n] h1 (fun r h' => r = some x ∧ bR5 h') := by
  obtain ⟨rfl, hd, so0, sz, co, cl, f, g, el, ⟨a1, a2, a3, a4, a5, a6, a7, a8⟩, q5, hel, e9⟩ := hP
  obtain ⟨fs, hf, -⟩ := bObj60 hH
  obtain ⟨w14, f14, r14⟩ := bF60 hH hf (j := 14) (ty := .inr (2, 67)) (by decide +kernel)
  cases bT_one (by decide) (by decide +kernel) r14
  obtain ⟨w15, f15, r15⟩ := bF60 hH hf (j := 15) (ty := .inr (2, 68)) (by decide +kernel)
  cases bT_one (by decide) (by decide +kernel) r15
  obtain ⟨w16, f16, r16⟩ := bF60 hH hf (j := 16) (ty := .inr (2, 69)) (by decide +kernel)
  cases bT_one (by decide) (by decide +kernel) r16
  obtain ⟨w17, f17, r17⟩ := bF60 hH hf (j := 17) (ty := .inr (2, 70)) (by decide +kernel)
  cases bT_one (by decide) (by decide +kernel) r17
  obtain ⟨w18, f18, r18⟩ := bF60 hH hf (j := 18) (ty := .inr (2, 71)) (by decide +kernel)
  cases bT_one (by decide) (by decide +kernel) r18
  have sn : s.toNatClampNeg = S := i_nat hs
  have e0 : (0 : Int32).toInt = 0 := rfl
  have e3 : (Int32.ofInt 3).toInt = 3 := rfl
  have e100 : (Int8.ofInt 100).toInt32.toInt = 100 := rfl
  have c4 : h1[67]? = some (.inl (0, 8, .inl hd)) := by rw [e9, s_set_ne (by omega), s_set_ne (by omega), s_set_ne (by omega)]; exact a4
  have c5 : h1[68]? = some (.inl (0, 8, .inl so0)) := by rw [e9, s_set_ne (by omega), s_set_ne (by omega), s_set_ne (by omega)]; exact a5
  have c6 : h1[69]? = some (.inl (0, 8, .inl sz)) := by rw [e9, s_set_ne (by omega), s_set_ne (by omega), s_set_ne (by omega)]; exact a6
  have c7 : h1[70]? = some (.inl (0, 8, .inl co)) := by rw [e9, s_set_ne (by omega), s_set_ne (by omega), s_set_ne (by omega)]; exact a7
  have c8 : h1[71]? = some (.inl (1, 800, .inr (.inl cl))) := by rw [e9, s_set_ne (by omega), s_set_ne (by omega), s_set_ne (by omega)]; exact a8
  have c1 : h1[1]? = some (.inl (3, 8, .inr (.inr (.inr (.inr f))))) := by rw [e9, s_set_ne (by omega), s_set_ne (by omega), s_set_ne (by omega)]; exact a1
  have c3 : h1[2]? = some (.inl (4, 8, .inr (.inr (.inr (.inr (va_up g S none)))))) := by rw [e9, s_set_ne (by omega), s_set_ne (by omega)]; exact s_set_eq a3
  obtain ⟨ot, z, el0, p1, p2, -⟩ := q5 S hS
  have cr : h1[44 + 2 * S]? = some (.inr (7, [.int so, .int n, .ref (45 + 2 * S)])) := by rw [e9, s_set_ne (by omega)]; exact s_set_eq (by rw [s_set_ne (by omega)]; exact p1)
  have ce : h1[45 + 2 * S]? = some (.inl (1, 100, .inr (.inl el))) := by rw [e9]; exact s_set_eq (by rw [s_set_ne (by omega), s_set_ne (by omega)]; exact p2)
  have co' : ∀ t, t < 8 → t ≠ S → bRS hd so0 sz co cl g h1 t := fun t ht hne => by
    rw [e9]
    exact bRS_set (bRS_set (bRS_set (q5 t ht) (by omega) (by omega) (by omega)) (by omega) (by omega) (by omega)) (by omega) (by omega) (by omega)
  clear e9 q5 a1 a3 a4 a5 a6 a7 a8 p1 p2
  refine sDo_of (d := 9) (nL := 5) (L := [some (.ref 60), some (.int s), some (.int so), some (.int n), none]) rfl rfl ?_
  refine g_aload_n (i := 0) rfl rfl ?_
  refine g_iload_n (i := 1) rfl rfl ?_
  refine g_virt1 (Qc := fun r h' => h' = h1 ∧ r = some (.int 1)) rfl (by decide) rfl hf rfl (Nat.le_of_ble_eq_true rfl) (s_sh12 (by rw [if_pos (by omega)])) (fun r h9 hq9 => ?_)
  obtain ⟨rfl, rfl⟩ := hq9
  refine g_if_ne 14 rfl rfl (fun _ => ?_) (fun hc => absurd hc (by decide))
  refine g_iload_n (i := 3) rfl rfl ?_
  refine g_if_ge 25 rfl rfl (fun _ => ?_) (fun hc => absurd hc (by rw [i_le, e0]; omega))
  refine g_iload_n (i := 2) rfl rfl ?_
  refine g_if_lt 34 rfl rfl (fun hc => absurd hc (by rw [i_lt, e0]; omega)) (fun _ => ?_)
  refine g_iload_n (i := 2) rfl rfl ?_
  refine g_iconst (n := 3) rfl ?_
  refine g_icmp_le 41 rfl rfl (fun _ => ?_) (fun hc => absurd hc (by rw [i_le, e3]; omega))
  refine g_iload_n (i := 3) rfl rfl ?_
  refine g_bipush (n := 100) rfl ?_
  refine g_icmp_le 54 rfl rfl (fun _ => ?_) (fun hc => absurd hc (by rw [i_le, e100]; omega))
  refine g_aload_n (i := 0) rfl rfl ?_
  refine g_getfield (v := .ref 67) rfl hf (by decide) f14 ?_
  refine g_iload_n (i := 1) rfl rfl ?_
  refine g_iconst (n := 1) rfl ?_
  refine g_iastore (h1 := (List.set h9 67 (.inl (0, 8, .inl (upd hd S (Int32.ofInt 1)))))) rfl c4 (i_in (by omega) (by omega)) (by rw [sn]) ?_
  have hf1 : ((List.set h9 67 (.inl (0, 8, .inl (upd hd S (Int32.ofInt 1))))) : sHp)[60]? = some (.inr (12, fs)) := by rw [s_set_ne (by decide)]; exact hf
  refine g_aload_n (i := 0) rfl rfl ?_
  refine g_getfield (v := .ref 68) rfl hf1 (by decide) f15 ?_
  refine g_iload_n (i := 1) rfl rfl ?_
  refine g_iload_n (i := 2) rfl rfl ?_
  refine g_iastore (h1 := (List.set (List.set h9 67 (.inl (0, 8, .inl (upd hd S (Int32.ofInt 1))))) 68 (.inl (0, 8, .inl (upd so0 S so))))) rfl (by rw [s_set_ne (by decide)]; exact c5) (i_in (by omega) (by omega)) (by rw [sn]) ?_
  have hf2 : ((List.set (List.set h9 67 (.inl (0, 8, .inl (upd hd S (Int32.ofInt 1))))) 68 (.inl (0, 8, .inl (upd so0 S so)))) : sHp)[60]? = some (.inr (12, fs)) := by rw [s_set_ne (by decide), s_set_ne (by decide)]; exact hf
  refine g_aload_n (i := 0) rfl rfl ?_
  refine g_getfield (v := .ref 69) rfl hf2 (by decide) f16 ?_
  refine g_iload_n (i := 1) rfl rfl ?_
  refine g_iload_n (i := 3) rfl rfl ?_
  refine g_iastore (h1 := (List.set (List.set (List.set h9 67 (.inl (0, 8, .inl (upd hd S (Int32.ofInt 1))))) 68 (.inl (0, 8, .inl (upd so0 S so)))) 69 (.inl (0, 8, .inl (upd sz S n))))) rfl (by rw [s_set_ne (by decide), s_set_ne (by decide)]; exact c6) (i_in (by omega) (by omega)) (by rw [sn]) ?_
  refine g_iconst (n := 0) rfl ?_
  refine g_istore (i := 4) (L1 := [some (.ref 60), some (.int s), some (.int so), some (.int n), some (.int (Int32.ofInt 0))]) rfl (Nat.le_of_ble_eq_true rfl) rfl ?_
  have hf3 : ((List.set (List.set (List.set h9 67 (.inl (0, 8, .inl (upd hd S (Int32.ofInt 1))))) 68 (.inl (0, 8, .inl (upd so0 S so)))) 69 (.inl (0, 8, .inl (upd sz S n)))) : sHp)[60]? = some (.inr (12, fs)) := by rw [s_set_ne (by decide), s_set_ne (by decide), s_set_ne (by decide)]; exact hf
  have c83 : ((List.set (List.set (List.set h9 67 (.inl (0, 8, .inl (upd hd S (Int32.ofInt 1))))) 68 (.inl (0, 8, .inl (upd so0 S so)))) 69 (.inl (0, 8, .inl (upd sz S n)))) : sHp)[71]? = some (.inl (1, 800, .inr (.inl cl))) := by rw [s_set_ne (by decide), s_set_ne (by decide), s_set_ne (by decide)]; exact c8
  have h0 := s_row12_go (d := 9) (so := so) (n := n) (Q := fun r h' => r = some (.int 1) ∧ bR5 h') hf3 f18 c83 hs hS ?_ 101 (Int32.ofInt 0) 0 rfl (by omega) (by omega)
  · rw [zr_0, s_set_self c83] at h0
    exact h0
  · refine ⟨rfl, upd hd S (Int32.ofInt 1), upd so0 S so, upd sz S n, co, zr cl S 100, f, va_up g S none, ⟨?_, a2, ?_, ?_, ?_, ?_, ?_, ?_⟩, fun t ht => ?_⟩
    · rw [s_set_ne (by decide), s_set_ne (by decide), s_set_ne (by decide), s_set_ne (by decide)]; exact c1
    · rw [s_set_ne (by decide), s_set_ne (by decide), s_set_ne (by decide), s_set_ne (by decide)]; exact c3
    · rw [s_set_ne (by decide), s_set_ne (by decide), s_set_ne (by decide)]; exact s_set_eq c4
    · rw [s_set_ne (by decide), s_set_ne (by decide)]; exact s_set_eq (by rw [s_set_ne (by decide)]; exact c5)
    · rw [s_set_ne (by decide)]; exact s_set_eq (by rw [s_set_ne (by decide), s_set_ne (by decide)]; exact c6)
    · rw [s_set_ne (by decide), s_set_ne (by decide), s_set_ne (by decide), s_set_ne (by decide)]; exact c7
    · exact s_set_eq c83
    · by_cases hts : t = S
      · subst hts
        refine ⟨so, n, el, ?_, ?_, Or.inr (Or.inl ⟨u_at, va_up_self _ _ _, u_at.symm, o1, o2, u_at.symm, n0, n1, fun i hi => ?_⟩)⟩
        · rw [s_set_ne (by omega), s_set_ne (by omega), s_set_ne (by omega), s_set_ne (by omega)]; exact cr
        · rw [s_set_ne (by omega), s_set_ne (by omega), s_set_ne (by omega), s_set_ne (by omega)]; exact ce
        · rw [hel i hi]
          unfold zr
          rw [if_pos (by omega)]
      · obtain ⟨ot', z', el', r1, r2, r3⟩ := bRS_set (p := 71) (c := .inl (1, 800, .inr (.inl (zr cl S 100)))) (bRS_set (p := 69) (c := .inl (0, 8, .inl (upd sz S n))) (bRS_set (p := 68) (c := .inl (0, 8, .inl (upd so0 S so))) (bRS_set (p := 67) (c := .inl (0, 8, .inl (upd hd S (Int32.ofInt 1)))) (co' t ht hts) (by decide) (by omega) (by omega)) (by decide) (by omega) (by omega)) (by decide) (by omega) (by omega)) (by decide) (by omega) (by omega)
        refine ⟨ot', z', el', r1, r2, ?_⟩
        rcases r3 with ⟨x1, x2, x3⟩ | ⟨x1, x2, x3, x4, x5, x6, x7, x8, x9⟩ | ⟨x1, x2, pc, x3, x4, x5⟩
        · exact Or.inl ⟨by rw [u_ne hts]; exact x1, by rw [va_up_ne _ _ hts]; exact x2, x3⟩
        · refine Or.inr (Or.inl ⟨by rw [u_ne hts]; exact x1, by rw [va_up_ne _ _ hts]; exact x2, by rw [u_ne hts]; exact x3, x4, x5, by rw [u_ne hts]; exact x6, x7, x8, fun i hi => ?_⟩)
          rw [x9 i hi]
          unfold zr
          rw [if_neg (by omega)]
        · exact Or.inr (Or.inr ⟨by rw [u_ne hts]; exact x1, x2, pc, x3, by rw [va_up_ne _ _ hts]; exact x4, x5⟩)
