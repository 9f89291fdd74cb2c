/-! ===== judge ===== -/
def jdF (w : Nat → Nat) (T : Nat → Int32) : Nat → Nat → Int32
  | 0, _ => Int32.ofInt (-1)
  | f + 1, k => if Int32.ofNat (w k) = T k then jdF w T f (k + 1) else Int32.ofNat k
theorem jdF_y {w : Nat → Nat} {T : Nat → Int32} {f k : Nat} (h : Int32.ofNat (w k) = T k) : jdF w T (f + 1) k = jdF w T f (k + 1) := if_pos h
theorem jdF_n {w : Nat → Nat} {T : Nat → Int32} {f k : Nat} (h : ¬ Int32.ofNat (w k) = T k) : jdF w T (f + 1) k = Int32.ofNat k := if_neg h
def jdW (m : MF) (n : Nat) (S : Nat → Int64) : Nat → Nat := fun k => wV m n k (S k)
theorem s_jud11_go {d : Nat} {h : sHp} {ik tf : Int32} {c : CF} {m : MF} {s : Sg} {f : Nat → Option Nat} {sh ot : Int32} {S n : Nat} {el : Nat → Int64} (hd : 4 ≤ d) (h0 : h[0]? = some (cO ik tf)) (F : FC h 5 c) (g : gdF c s.1 s.2.1) (r : RB c m) (sI : sgI c s) (a1 : h[1]? = some (.inl (3, 8, .inr (.inr (.inr (.inr f)))))) (hs : sh.toInt = S) (hS : S < 8) (hf : f S = some (44 + 2 * S)) (b1 : h[44 + 2 * S]? = some (.inr (7, [.int ot, .int (Int32.ofNat n), .ref (45 + 2 * S)]))) (b2 : h[45 + 2 * S]? = some (.inl (1, 100, .inr (.inl el)))) (hn1 : n ≤ 100) : ∀ (fu k : Nat), k + fu = s.2.2 → sGo none 151 d 22 [some (.ref 0), some (.int sh), some (.int 0), some (.int (Int32.ofNat k))] [] h (fun r h' => r = some (.int (jdF (jdW m (s.1 * s.2.1) c.2.2.2.2.2.2) (tx el n) fu k)) ∧ h' = h) := by
  have n5 := sI.2.2.2.2.2.2.2
  have e11 : (c.1 11).toInt = ((s.2.2 : Nat) : Int) := by rw [sI.2.2.1]; exact ofN_toInt (by omega)
  have gS : va_rf (f sh.toNatClampNeg) = .ref (44 + 2 * S) := by rw [i_nat hs, hf]; rfl
  intro fu
  induction fu with
  | zero =>
    intro k hk
    have ek := ofN_toInt (n := k) (by omega)
    refine g_iload_n (i := 3) rfl rfl ?_
    refine g_aload_n (i := 0) rfl rfl ?_
    refine g_getfield (v := .ref 5) rfl h0 (by decide) rfl ?_
    refine g_getfield (v := .int (c.1 11)) rfl F.1 (by decide) rfl ?_
    refine g_icmp_ge 76 rfl rfl (fun _ => ?_) (fun hc => absurd hc (by rw [i_le, e11, ek]; omega))
    refine g_iconst (n := (-1)) rfl ?_
    refine g_ireturn (ty := .int) rfl rfl rfl ?_
    exact ⟨rfl, rfl⟩
  | succ fu ih =>
    intro k hk
    have ek := ofN_toInt (n := k) (by omega)
    refine g_iload_n (i := 3) rfl rfl ?_
    refine g_aload_n (i := 0) rfl rfl ?_
    refine g_getfield (v := .ref 5) rfl h0 (by decide) rfl ?_
    refine g_getfield (v := .int (c.1 11)) rfl F.1 (by decide) rfl ?_
    refine g_icmp_ge 76 rfl rfl (fun hc => absurd hc (by rw [i_le, e11, ek]; omega)) (fun _ => ?_)
    refine g_iload_n (i := 3) rfl rfl ?_
    refine g_iconst (n := 5) rfl ?_
    refine g_icmp_ge 76 rfl rfl (fun hc => absurd hc (by rw [i_le, ek, show (Int32.ofInt 5).toInt = 5 from rfl]; omega)) (fun _ => ?_)
    refine g_aload_n (i := 0) rfl rfl ?_
    refine g_getfield (v := .ref 5) rfl h0 (by decide) rfl ?_
    refine g_iload_n (i := 3) rfl rfl ?_
    refine g_aload_n (i := 0) rfl rfl ?_
    refine g_getfield (v := .ref 5) rfl h0 (by decide) rfl ?_
    refine g_getfield (v := .ref (5 + 10)) rfl F.1 (by decide) rfl ?_
    refine g_iload_n (i := 3) rfl rfl ?_
    refine g_laload (n := 7) (f := c.2.2.2.2.2.2) rfl F.2.2.2.2.2.2 (i_in (by omega) (by omega)) ?_
    rw [i_nat ek]
    refine g_virt2 (Qc := fun r h' => h' = h ∧ r = some (.int (Int32.ofNat (wV m (s.1 * s.2.1) k (c.2.2.2.2.2.2 k))))) rfl (by decide) rfl F.1 rfl (Nat.le_of_ble_eq_true rfl) (s_worthOf11 (by omega) F g r sI (by omega)) (fun r h hq9 => ?_)
    obtain ⟨rfl, rfl⟩ := hq9
    refine g_aload_n (i := 0) rfl rfl ?_
    refine g_getfield (v := .ref 1) rfl h0 (by decide) rfl ?_
    refine g_iload_n (i := 1) rfl rfl ?_
    refine g_aaload rfl a1 (by decide) (i_in (by omega) (by omega)) ?_
    rw [gS]
    refine g_iload_n (i := 3) rfl rfl ?_
    refine g_virt1 (Qc := fun r h' => h' = h ∧ r = some (.int ((tx el n) k))) rfl (by decide) rfl b1 rfl (Nat.le_of_ble_eq_true rfl) (by rw [show d = (d - 2) + 2 by omega]; exact s_intR (d := d - 2) b1 b2 hn1 ek) (fun r9 h hq9 => ?_)
    obtain ⟨rfl, rfl⟩ := hq9
    refine g_icmp_eq 70 rfl rfl (fun c_1 => ?_) (fun c_1 => ?_)
    · skip
      rw [jdF_y (w := jdW m (s.1 * s.2.1) c.2.2.2.2.2.2) (T := (tx el n)) (f := fu) (k := k) c_1]
      refine g_iinc (i := 3) (L1 := [some (.ref 0), some (.int sh), some (.int 0), some (.int ((Int32.ofNat k) + Int32.ofInt 1))]) rfl rfl rfl ?_
      rw [ofN_add (by omega)]
      refine g_goto 22 rfl rfl ?_
      exact ih (k + 1) (by omega)
    · skip
      rw [jdF_n (w := jdW m (s.1 * s.2.1) c.2.2.2.2.2.2) (T := (tx el n)) (f := fu) (k := k) c_1]
      refine g_iload_n (i := 3) rfl rfl ?_
      refine g_ireturn (ty := .int) rfl rfl rfl ?_
      exact ⟨rfl, rfl⟩
theorem s_jud11 {d : Nat} {h : sHp} {ik tf : Int32} {c : CF} {m : MF} {s : Sg} {f : Nat → Option Nat} {sh ot : Int32} {S n : Nat} {el : Nat → Int64} (hd : 5 ≤ d) (h0 : h[0]? = some (cO ik tf)) (F : FC h 5 c) (g : gdF c s.1 s.2.1) (r : RB c m) (sI : sgI c s) (a1 : h[1]? = some (.inl (3, 8, .inr (.inr (.inr (.inr f)))))) (hs : sh.toInt = S) (hS : S < 8) (hf : f S = some (44 + 2 * S)) (b1 : h[44 + 2 * S]? = some (.inr (7, [.int ot, .int (Int32.ofNat n), .ref (45 + 2 * S)]))) (b2 : h[45 + 2 * S]? = some (.inl (1, 100, .inr (.inl el)))) (hn1 : n ≤ 100) (hno : sDo (d - 1) 161 [.ref 0, .int sh] h (fun r h' => h' = h ∧ r = some (.int 0))) : sDo d 151 [.ref 0, .int sh] h (fun r h' => r = some (.int (jdF (jdW m (s.1 * s.2.1) c.2.2.2.2.2.2) (tx el n) s.2.2 0)) ∧ h' = h) := by
  refine sDo_of1 (nL := 4) (L := [some (.ref 0), some (.int sh), none, none]) (by omega) rfl rfl ?_
  refine g_aload_n (i := 0) rfl rfl ?_
  refine g_iload_n (i := 1) rfl rfl ?_
  refine g_virt1 (Qc := fun r h' => h' = h ∧ r = some (.int 0)) rfl (by decide) rfl h0 rfl (Nat.le_of_ble_eq_true rfl) (hno) (fun r h hq9 => ?_)
  obtain ⟨rfl, rfl⟩ := hq9
  refine g_istore_n (i := 2) (L1 := [some (.ref 0), some (.int sh), some (.int 0), none]) rfl (Nat.le_of_ble_eq_true rfl) rfl ?_
  refine g_iload_n (i := 2) rfl rfl ?_
  refine g_if_eq 20 rfl rfl (fun _ => ?_) (fun hc => absurd hc (by decide))
  refine g_iconst (n := 0) rfl ?_
  refine g_istore_n (i := 3) (L1 := [some (.ref 0), some (.int sh), some (.int 0), some (.int (Int32.ofInt 0))]) rfl (Nat.le_of_ble_eq_true rfl) rfl ?_
  exact s_jud11_go (d := d - 1) (by omega) h0 F g r sI a1 hs hS hf b1 b2 hn1 s.2.2 0 (Nat.zero_add _)
theorem s_jud11n {d : Nat} {h : sHp} {ik tf : Int32} {R : Nat → Int32} {sh b : Int32} {B : Nat} (hd : 3 ≤ d) (h0 : h[0]? = some (cO ik tf)) (hR : h[43]? = some (rFc R)) (hb : b.toInt = -(B : Int)) (hB : 1 ≤ B ∧ B ≤ 7) (hno : sDo (d - 1) 161 [.ref 0, .int sh] h (fun r h' => h' = h ∧ r = some (.int b))) : sDo d 151 [.ref 0, .int sh] h (fun r h' => r = some (.int (b - (Int8.ofInt 10).toInt32)) ∧ h' = h.set 43 (rFc (bump R B))) := by
  have hb0 : ¬ b = 0 := fun z => by rw [z] at hb; have e : (0 : Int32).toInt = 0 := rfl; omega
  refine sDo_of1 (nL := 4) (L := [some (.ref 0), some (.int sh), none, none]) (by omega) rfl rfl ?_
  refine g_aload_n (i := 0) rfl rfl ?_
  refine g_iload_n (i := 1) rfl rfl ?_
  refine g_virt1 (Qc := fun r h' => h' = h ∧ r = some (.int b)) rfl (by decide) rfl h0 rfl (Nat.le_of_ble_eq_true rfl) (hno) (fun r h hq9 => ?_)
  obtain ⟨rfl, rfl⟩ := hq9
  refine g_istore_n (i := 2) (L1 := [some (.ref 0), some (.int sh), some (.int b), none]) rfl (Nat.le_of_ble_eq_true rfl) rfl ?_
  refine g_iload_n (i := 2) rfl rfl ?_
  refine g_if_eq 20 rfl rfl (fun hc => absurd hc (by exact hb0)) (fun _ => ?_)
  refine g_aload_n (i := 0) rfl rfl ?_
  refine g_iload_n (i := 2) rfl rfl ?_
  refine g_iload_n (i := 2) rfl rfl ?_
  refine g_bipush (n := 10) rfl ?_
  refine g_isub rfl ?_
  refine g_virt2 (Qc := fun r h' => r = some (.int (b - (Int8.ofInt 10).toInt32)) ∧ h' = h.set 43 (rFc (bump R B))) rfl (by decide) rfl h0 rfl (Nat.le_of_ble_eq_true rfl) (s_refA2 (by omega) h0 hR hb hB) (fun r h9 hq9 => ?_)
  obtain ⟨rfl, rfl⟩ := hq9
  refine g_ireturn (ty := .int) rfl rfl rfl ?_
  exact ⟨rfl, rfl⟩
theorem s_jud12_go {d : Nat} {h : sHp} {c : CF} {m : MF} {s : Sg} {sz : Nat → Int32} {cl : Nat → Int64} {sh : Int32} {S n : Nat} {T : Nat → Int32} {Q : Nat → Int64} (hd : 3 ≤ d) (M : MC h m) (g : gdF c s.1 s.2.1) (gM : gdM m.1 s.1 s.2.1) (r : RB c m) (sI : sgI c s) (sJ : sgJ m.1 s) (P : PT Q m.2.2.1 (s.1 * s.2.1)) (a6 : h[69]? = some (.inl (0, 8, .inl sz))) (a8 : h[71]? = some (.inl (1, 800, .inr (.inl cl)))) (hs : sh.toInt = S) (hS : S < 8) (hzn : sz S = Int32.ofNat n) (hn1 : n ≤ 100) (RT1 : RT cl S n T) : ∀ (fu k : Nat) (o4 : Option Value), k + fu = s.2.2 → sGo none 247 d 19 [some (.ref 60), some (.int sh), some (.int 0), some (.int (Int32.ofNat k)), o4] [] h (fun r h' => r = some (.int (jdF (jdW m (s.1 * s.2.1) Q) T fu k)) ∧ h' = h) := by
  have n5 := sI.2.2.2.2.2.2.2
  have e11 : (m.1 6).toInt = ((s.2.2 : Nat) : Int) := by rw [sJ.2.2.1]; exact ofN_toInt (by omega)
  have en1 : (Int32.ofNat n).toInt = ((n : Nat) : Int) := ofN_toInt (by omega)
  intro fu
  induction fu with
  | zero =>
    intro k o4 hk
    have ek := ofN_toInt (n := k) (by omega)
    refine g_iload_n (i := 3) rfl rfl ?_
    refine g_aload_n (i := 0) rfl rfl ?_
    refine g_getfield (v := .int (m.1 6)) rfl M.1 (by decide) rfl ?_
    refine g_icmp_ge 72 rfl rfl (fun _ => ?_) (fun hc => absurd hc (by rw [i_le, e11, ek]; omega))
    refine g_iconst (n := (-1)) rfl ?_
    refine g_ireturn (ty := .int) rfl rfl rfl ?_
    exact ⟨rfl, rfl⟩
  | succ fu ih =>
    intro k o4 hk
    have ek := ofN_toInt (n := k) (by omega)
    refine g_iload_n (i := 3) rfl rfl ?_
    refine g_aload_n (i := 0) rfl rfl ?_
    refine g_getfield (v := .int (m.1 6)) rfl M.1 (by decide) rfl ?_
    refine g_icmp_ge 72 rfl rfl (fun hc => absurd hc (by rw [i_le, e11, ek]; omega)) (fun _ => ?_)
    refine g_iload_n (i := 3) rfl rfl ?_
    refine g_aload_n (i := 0) rfl rfl ?_
    refine g_getfield (v := .ref 69) rfl M.1 (by decide) rfl ?_
    refine g_iload_n (i := 1) rfl rfl ?_
    refine g_iaload (n := 8) (f := sz) rfl a6 (i_in (by omega) (by omega)) ?_
    rw [i_nat hs, hzn]
    refine g_icmp_ge 46 rfl rfl (fun c_1 => ?_) (fun c_1 => ?_)
    · skip
      rw [i_le, ek, en1] at c_1
      have ev : T k = Int32.ofInt 0 := RT1.2.2.2 k (by omega)
      refine g_iconst (n := 0) rfl ?_
      refine g_istore (i := 4) (L1 := [some (.ref 60), some (.int sh), some (.int 0), some (.int (Int32.ofNat k)), some (.int (Int32.ofInt 0))]) rfl (Nat.le_of_ble_eq_true rfl) rfl ?_
      refine g_iload (i := 4) rfl rfl ?_
      refine g_aload_n (i := 0) rfl rfl ?_
      refine g_iload_n (i := 3) rfl rfl ?_
      refine g_aload_n (i := 0) rfl rfl ?_
      refine g_iload_n (i := 3) rfl rfl ?_
      refine g_virt1 (Qc := fun r h' => h' = h ∧ r = some (.long (Q k))) rfl (by decide) rfl M.1 rfl (Nat.le_of_ble_eq_true rfl) (s_pc12 (k := k) (by omega) M gM P (by omega) (cdS_lt (by omega)).symm) (fun r h hq9 => ?_)
      obtain ⟨rfl, rfl⟩ := hq9
      refine g_virt2 (Qc := fun r h' => h' = h ∧ r = some (.int (Int32.ofNat (wV m (s.1 * s.2.1) k (Q k))))) rfl (by decide) rfl M.1 rfl (Nat.le_of_ble_eq_true rfl) (s_worthOf12 (by omega) M g gM r sI (by omega)) (fun r h hq9 => ?_)
      obtain ⟨rfl, rfl⟩ := hq9
      refine g_icmp_eq 66 rfl rfl (fun c_2 => ?_) (fun c_2 => ?_)
      · skip
        rw [jdF_y (w := jdW m (s.1 * s.2.1) Q) (T := T) (f := fu) (k := k) (ev.trans c_2).symm]
        refine g_iinc (i := 3) (L1 := [some (.ref 60), some (.int sh), some (.int 0), some (.int ((Int32.ofNat k) + Int32.ofInt 1)), some (.int (Int32.ofInt 0))]) rfl rfl rfl ?_
        rw [ofN_add (by omega)]
        refine g_goto 19 rfl rfl ?_
        exact ih (k + 1) _ (by omega)
      · skip
        rw [jdF_n (w := jdW m (s.1 * s.2.1) Q) (T := T) (f := fu) (k := k) (fun z => c_2 (ev.symm.trans z.symm))]
        refine g_iload_n (i := 3) rfl rfl ?_
        refine g_ireturn (ty := .int) rfl rfl rfl ?_
        exact ⟨rfl, rfl⟩
    · skip
      rw [i_le, ek, en1] at c_1
      have ev : T k = T k := rfl
      refine g_aload_n (i := 0) rfl rfl ?_
      refine g_iload_n (i := 1) rfl rfl ?_
      refine g_iload_n (i := 3) rfl rfl ?_
      refine g_virt2 (Qc := fun r h' => h' = h ∧ r = some (.int (T k))) rfl (by decide) rfl M.1 rfl (Nat.le_of_ble_eq_true rfl) (s_intAt12 (by omega) M.1 a8 hs RT1 (by omega)) (fun r h hq9 => ?_)
      obtain ⟨rfl, rfl⟩ := hq9
      refine g_goto 47 rfl rfl ?_
      refine g_istore (i := 4) (L1 := [some (.ref 60), some (.int sh), some (.int 0), some (.int (Int32.ofNat k)), some (.int (T k))]) rfl (Nat.le_of_ble_eq_true rfl) rfl ?_
      refine g_iload (i := 4) rfl rfl ?_
      refine g_aload_n (i := 0) rfl rfl ?_
      refine g_iload_n (i := 3) rfl rfl ?_
      refine g_aload_n (i := 0) rfl rfl ?_
      refine g_iload_n (i := 3) rfl rfl ?_
      refine g_virt1 (Qc := fun r h' => h' = h ∧ r = some (.long (Q k))) rfl (by decide) rfl M.1 rfl (Nat.le_of_ble_eq_true rfl) (s_pc12 (k := k) (by omega) M gM P (by omega) (cdS_lt (by omega)).symm) (fun r h hq9 => ?_)
      obtain ⟨rfl, rfl⟩ := hq9
      refine g_virt2 (Qc := fun r h' => h' = h ∧ r = some (.int (Int32.ofNat (wV m (s.1 * s.2.1) k (Q k))))) rfl (by decide) rfl M.1 rfl (Nat.le_of_ble_eq_true rfl) (s_worthOf12 (by omega) M g gM r sI (by omega)) (fun r h hq9 => ?_)
      obtain ⟨rfl, rfl⟩ := hq9
      refine g_icmp_eq 66 rfl rfl (fun c_3 => ?_) (fun c_3 => ?_)
      · skip
        rw [jdF_y (w := jdW m (s.1 * s.2.1) Q) (T := T) (f := fu) (k := k) (ev.trans c_3).symm]
        refine g_iinc (i := 3) (L1 := [some (.ref 60), some (.int sh), some (.int 0), some (.int ((Int32.ofNat k) + Int32.ofInt 1)), some (.int (T k))]) rfl rfl rfl ?_
        rw [ofN_add (by omega)]
        refine g_goto 19 rfl rfl ?_
        exact ih (k + 1) _ (by omega)
      · skip
        rw [jdF_n (w := jdW m (s.1 * s.2.1) Q) (T := T) (f := fu) (k := k) (fun z => c_3 (ev.symm.trans z.symm))]
        refine g_iload_n (i := 3) rfl rfl ?_
        refine g_ireturn (ty := .int) rfl rfl rfl ?_
        exact ⟨rfl, rfl⟩
theorem s_jud12 {d : Nat} {h : sHp} {c : CF} {m : MF} {s : Sg} {sz : Nat → Int32} {cl : Nat → Int64} {sh : Int32} {S n : Nat} {T : Nat → Int32} {Q : Nat → Int64} (hd : 4 ≤ d) (M : MC h m) (g : gdF c s.1 s.2.1) (gM : gdM m.1 s.1 s.2.1) (r : RB c m) (sI : sgI c s) (sJ : sgJ m.1 s) (P : PT Q m.2.2.1 (s.1 * s.2.1)) (a6 : h[69]? = some (.inl (0, 8, .inl sz))) (a8 : h[71]? = some (.inl (1, 800, .inr (.inl cl)))) (hs : sh.toInt = S) (hS : S < 8) (hzn : sz S = Int32.ofNat n) (hn1 : n ≤ 100) (RT1 : RT cl S n T) (wt : sDo (d - 1) 184 [.ref 60, .int sh, .int (Int32.ofInt 1)] h (fun r h' => h' = h ∧ r = some (.int 0))) : sDo d 247 [.ref 60, .int sh] h (fun r h' => r = some (.int (jdF (jdW m (s.1 * s.2.1) Q) T s.2.2 0)) ∧ h' = h) := by
  refine sDo_of1 (nL := 5) (L := [some (.ref 60), some (.int sh), none, none, none]) (by omega) rfl rfl ?_
  refine g_aload_n (i := 0) rfl rfl ?_
  refine g_iload_n (i := 1) rfl rfl ?_
  refine g_iconst (n := 1) rfl ?_
  refine g_virt2 (Qc := fun r h' => h' = h ∧ r = some (.int 0)) rfl (by decide) rfl M.1 rfl (Nat.le_of_ble_eq_true rfl) (wt) (fun r h hq9 => ?_)
  obtain ⟨rfl, rfl⟩ := hq9
  refine g_istore_n (i := 2) (L1 := [some (.ref 60), some (.int sh), some (.int 0), none, none]) rfl (Nat.le_of_ble_eq_true rfl) rfl ?_
  refine g_iload_n (i := 2) rfl rfl ?_
  refine g_if_eq 17 rfl rfl (fun _ => ?_) (fun hc => absurd hc (by decide))
  refine g_iconst (n := 0) rfl ?_
  refine g_istore_n (i := 3) (L1 := [some (.ref 60), some (.int sh), some (.int 0), some (.int (Int32.ofInt 0)), none]) rfl (Nat.le_of_ble_eq_true rfl) rfl ?_
  exact s_jud12_go (d := d - 1) (by omega) M g gM r sI sJ P a6 a8 hs hS hzn hn1 RT1 s.2.2 0 none (Nat.zero_add _)
theorem s_jud12n {d : Nat} {h : sHp} {R : Nat → Int32} {m : MF} {sh b : Int32} {B : Nat} (hd : 3 ≤ d) (M : MC h m) (hR : h[61]? = some (rFc R)) (hb : b.toInt = -(B : Int)) (hB : 1 ≤ B ∧ B ≤ 7) (wt : sDo (d - 1) 184 [.ref 60, .int sh, .int (Int32.ofInt 1)] h (fun r h' => h' = h ∧ r = some (.int b))) : sDo d 247 [.ref 60, .int sh] h (fun r h' => r = some (.int (b - (Int8.ofInt 10).toInt32)) ∧ h' = h.set 61 (rFc (bump R B))) := by
  have hb0 : ¬ b = 0 := fun z => by rw [z] at hb; have e : (0 : Int32).toInt = 0 := rfl; omega
  refine sDo_of1 (nL := 5) (L := [some (.ref 60), some (.int sh), none, none, none]) (by omega) rfl rfl ?_
  refine g_aload_n (i := 0) rfl rfl ?_
  refine g_iload_n (i := 1) rfl rfl ?_
  refine g_iconst (n := 1) rfl ?_
  refine g_virt2 (Qc := fun r h' => h' = h ∧ r = some (.int b)) rfl (by decide) rfl M.1 rfl (Nat.le_of_ble_eq_true rfl) (wt) (fun r h hq9 => ?_)
  obtain ⟨rfl, rfl⟩ := hq9
  refine g_istore_n (i := 2) (L1 := [some (.ref 60), some (.int sh), some (.int b), none, none]) rfl (Nat.le_of_ble_eq_true rfl) rfl ?_
  refine g_iload_n (i := 2) rfl rfl ?_
  refine g_if_eq 17 rfl rfl (fun hc => absurd hc (by exact hb0)) (fun _ => ?_)
  refine g_aload_n (i := 0) rfl rfl ?_
  refine g_iload_n (i := 2) rfl rfl ?_
  refine g_virt1 (Qc := fun r h' => r = some (.int (b - (Int8.ofInt 10).toInt32)) ∧ h' = h.set 61 (rFc (bump R B))) rfl (by decide) rfl M.1 rfl (Nat.le_of_ble_eq_true rfl) (s_noTen2 (by omega) M.1 hR hb hB) (fun r h9 hq9 => ?_)
  obtain ⟨rfl, rfl⟩ := hq9
  refine g_ireturn (ty := .int) rfl rfl rfl ?_
  exact ⟨rfl, rfl⟩
theorem pr9_judge (sh : Int32) : pairR bR9 151 247 [.int sh] := pr_qR (c1 := cn_X11_judge_0) (c2 := cn_X12_judge_0) ch_X11_judge_0 ch_X12_judge_0 (by decide +kernel) (by decide +kernel) (by decide +kernel) (by decide +kernel) rfl rfl (fun h hH => ⟨bt0 hH, vI0 sh, trivial⟩) (fun h hH => ⟨bt60 hH, vI0 sh, trivial⟩) (fun hH a q => bR9_fr hH a (by decide +kernel) q) (fun hH a q => bR9_fr hH a (by decide +kernel) q) (fun h hH hR => by
  obtain ⟨⟨hd, so, sz, co, cl, f, gg, q4, bs⟩, c, ck, m, gk, ik, tf, kc, km, ej, rl, rk⟩ := hR
  have F := kc.1
  have h0 := kc.2.2.1
  have M := km.1
  obtain ⟨R, hR43⟩ := RA_of hH (p := 43) (Or.inl rfl)
  obtain ⟨s, sI, sJ, g, gM⟩ := RN_sg rl.1.1
  have n5 := sI.2.2.2.2.2.2.2
  have hn := gdF_n g
  have PO := rl.2 s sI
  have q4' := q4
  obtain ⟨a1, a2, a3, a4, a5, a6, a7, a8⟩ := q4'
  have refd : ∀ (b : Int32) (B : Nat), b.toInt = -(B : Int) → (1 ≤ B ∧ B ≤ 7) → sDo 9 161 [.ref 0, .int sh] h (fun r h' => h' = h ∧ r = some (.int b)) → (∀ h1, bH h1 → vE h h1 → sDo 9 184 [.ref 60, .int sh, .int (Int32.ofInt 1)] h1 (fun r h' => h' = h1 ∧ r = some (.int b))) → ∃ v : Value, sDo 10 151 [.ref 0, .int sh] h (fun r h1 => r = some v ∧ vE h h1) ∧ ∀ h1, bH h1 → vE h h1 → sDo 10 247 [.ref 60, .int sh] h1 (fun r _ => r = some v) := by
    intro b B hb hB hno wt
    refine ⟨_, sDo_mono (s_jud11n (d := 10) (by omega) h0 hR43 hb hB hno) (fun r h' q => ⟨q.1, by rw [q.2]; exact vE_43⟩), fun h1 hH1 E => ?_⟩
    obtain ⟨Rm, hRm⟩ := RA_of hH1 (p := 61) (Or.inr rfl)
    exact sDo_mono (s_jud12n (d := 10) (by omega) (MC_vE M E) hRm hb hB (wt h1 hH1 E)) (fun r h' q => q.1)
  have wts : ∀ (S : Nat), sh.toInt = S → S < 8 → ∀ h1, bH h1 → vE h h1 → sDo 9 184 [.ref 60, .int sh, .int (Int32.ofInt 1)] h1 (fun r h' => h' = h1 ∧ r = some (.int (nrOf hd S))) := fun S hs hS h1 hH1 E => sDo_mono (s_wantsE (d := 9) (w := Int32.ofInt 1) (by omega) (vE_at E M.1 (by decide)) (vE_at E a4 (by decide)) (Or.inl rfl)) (fun r h' q => ⟨q.1, by
    rcases q.2 with ⟨-, q2⟩ | ⟨y, -⟩
    · rw [q2, show sh.toInt.toNat = S by omega]
      unfold wtS nrOf
      rcases hd_3 (bs S (by omega)) with e | e | e
      · rw [e]; rfl
      · rw [e]; rfl
      · rw [e]; rfl
    · exact absurd (by omega) y⟩)
  by_cases hS : 0 ≤ sh.toInt ∧ sh.toInt < 8
  · obtain ⟨S, hs⟩ : ∃ S : Nat, sh.toInt = S := ⟨sh.toInt.toNat, by omega⟩
    obtain ⟨ot, z, el, b1, b2, b3⟩ := bs S (by omega)
    have hno := s_noIn (d := 7) (el := el) hH q4 hs (by omega) b1 b3
    have wt := wts S hs (by omega)
    have nr0 : hd S = 1 → nrOf hd S = 0 := fun e => by unfold nrOf; rw [if_pos e]
    have nrb : ¬ hd S = 1 → ∃ B : Nat, (2 ≤ B ∧ B ≤ 3) ∧ (nrOf hd S).toInt = -(B : Int) := fun e => by
      unfold nrOf
      rw [if_neg e]
      rcases hd_3 (bs S (by omega)) with y | y | y
      · rw [y]; exact ⟨3, by decide, by decide⟩
      · exact absurd y e
      · rw [y]; exact ⟨2, by decide, by decide⟩
    by_cases e1 : hd S = 1
    · rw [nr0 e1] at hno wt
      rcases b3 with ⟨e, -⟩ | ⟨-, -, eo, o0, o3, ez, z0, z100, eel⟩ | ⟨e, -⟩
      · rw [e1] at e; exact absurd e (by decide)
      · obtain ⟨n, hnn⟩ : ∃ n : Nat, z.toInt = n := ⟨z.toInt.toNat, by omega⟩
        have hz : z = Int32.ofNat n := Int32.toInt_inj.mp (by rw [hnn, ofN_toInt (by omega)])
        have RT1 : RT cl S n (tx el n) := ⟨by omega, by omega, fun i hi => by
            unfold tx
            rw [if_pos hi, eel i (by omega)], fun i hi => if_neg (by omega)⟩
        rw [hz] at b1
        exact ⟨_, sDo_mono (s_jud11 (d := 10) (by omega) h0 F g rl.1 sI a1 hs (by omega) (a2 S (by omega)) b1 b2 (by omega) hno) (fun r h' q => ⟨q.1, by rw [q.2]; exact vE_rfl⟩), fun h1 hH1 E => sDo_mono (s_jud12 (d := 10) (by omega) (MC_vE M E) g gM rl.1 sI sJ PO (vE_at E a6 (by decide)) (vE_at E a8 (by decide)) hs (by omega) (by rw [← ez, hz]) (by omega) RT1 (wt h1 hH1 E)) (fun r h' q => q.1)⟩
      · rw [e1] at e; exact absurd e (by decide)
    · obtain ⟨B, hB, eB⟩ := nrb e1
      exact refd _ B eB (by omega) hno wt
  · refine refd (-1) 1 (by decide) (by decide) (s_noOut (d := 7) hS) (fun h1 hH1 E => sDo_mono (s_wantsE (d := 9) (w := Int32.ofInt 1) (by omega) (vE_at E M.1 (by decide)) (vE_at E a4 (by decide)) (Or.inl rfl)) (fun r h' q => ⟨q.1, by
      rcases q.2 with ⟨y, -⟩ | ⟨-, q2⟩
      · exact absurd y hS
      · exact q2⟩)))
