/-! ===== says ===== -/
/-- is a kind one of another or under it -/
def isoK (kd : Nat) (k : Int) : Prop := k = 0 ∨ k = kd ∨ (k = 1 ∧ (kd = 4 ∨ kd = 5)) ∨ (k = 2 ∧ kd = 6)
theorem s_iso0 {d : Nat} {h : sHp} {q : Nat} {x : Int32} {z : Nat × List Value} (hd : 1 ≤ d) (a : h[q]? = some (.inr z)) : sDo d 10 [.ref q, .int x] h (fun r h' => h' = h ∧ (isoK 0 x.toInt ∧ r = some (.int 1) ∨ ¬ isoK 0 x.toInt ∧ r = some (.int 0))) := by
  unfold isoK
  refine sDo_of1 (nL := 2) (L := [some (.ref q), some (.int x)]) (by omega) rfl rfl ?_
  refine g_iload_n (i := 1) rfl rfl ?_
  have k_2 : (0 : Int32).toInt = 0 := rfl
  refine g_if_ne 8 rfl rfl (fun c_1 => ?_) (fun c_1 => ?_)
  · skip
    rw [i_eq, k_2] at c_1
    refine g_iconst (n := 0) rfl ?_
    refine g_ireturn (ty := .boolean) rfl rfl (by decide) ?_
    exact ⟨rfl, Or.inr ⟨by omega, rfl⟩⟩
  · skip
    rw [i_eq, k_2] at c_1
    refine g_iconst (n := 1) rfl ?_
    refine g_goto 9 rfl rfl ?_
    refine g_ireturn (ty := .boolean) rfl rfl (by decide) ?_
    exact ⟨rfl, Or.inl ⟨by omega, rfl⟩⟩
theorem s_iso1 {d : Nat} {h : sHp} {q : Nat} {x : Int32} {z : Nat × List Value} (hd : 2 ≤ d) (a : h[q]? = some (.inr z)) : sDo d 105 [.ref q, .int x] h (fun r h' => h' = h ∧ (isoK 1 x.toInt ∧ r = some (.int 1) ∨ ¬ isoK 1 x.toInt ∧ r = some (.int 0))) := by
  unfold isoK
  refine sDo_of1 (nL := 2) (L := [some (.ref q), some (.int x)]) (by omega) rfl rfl ?_
  refine g_iload_n (i := 1) rfl rfl ?_
  refine g_iconst (n := 1) rfl ?_
  have k_2 : (Int32.ofInt 1).toInt = 1 := rfl
  refine g_icmp_eq 13 rfl rfl (fun c_1 => ?_) (fun c_1 => ?_)
  · skip
    rw [i_eq, k_2] at c_1
    refine g_iconst (n := 1) rfl ?_
    refine g_goto 18 rfl rfl ?_
    refine g_ireturn (ty := .boolean) rfl rfl (by decide) ?_
    exact ⟨rfl, Or.inl ⟨by omega, rfl⟩⟩
  · skip
    rw [i_eq, k_2] at c_1
    refine g_aload_n (i := 0) rfl rfl ?_
    refine g_iload_n (i := 1) rfl rfl ?_
    refine g_init1 (Qc := fun r h' => h' = h ∧ (((isoK 0 x.toInt) ∧ r = some (.int 1)) ∨ (¬ (isoK 0 x.toInt) ∧ r = some (.int 0)))) rfl (by decide) rfl a (Nat.le_of_ble_eq_true rfl) (s_iso0 (by omega) a) (fun r h hq9 => ?_)
    obtain ⟨rfl, ⟨c_3, rfl⟩ | ⟨c_3, rfl⟩⟩ := hq9
    · skip
      unfold isoK at c_3
      refine g_if_eq 17 rfl rfl (fun hc => absurd hc (by decide)) (fun _ => ?_)
      refine g_iconst (n := 1) rfl ?_
      refine g_goto 18 rfl rfl ?_
      refine g_ireturn (ty := .boolean) rfl rfl (by decide) ?_
      exact ⟨rfl, Or.inl ⟨by omega, rfl⟩⟩
    · skip
      unfold isoK at c_3
      refine g_if_eq 17 rfl rfl (fun _ => ?_) (fun hc => absurd hc (by decide))
      refine g_iconst (n := 0) rfl ?_
      refine g_ireturn (ty := .boolean) rfl rfl (by decide) ?_
      exact ⟨rfl, Or.inr ⟨by omega, rfl⟩⟩
theorem s_iso2 {d : Nat} {h : sHp} {q : Nat} {x : Int32} {z : Nat × List Value} (hd : 2 ≤ d) (a : h[q]? = some (.inr z)) : sDo d 6 [.ref q, .int x] h (fun r h' => h' = h ∧ (isoK 2 x.toInt ∧ r = some (.int 1) ∨ ¬ isoK 2 x.toInt ∧ r = some (.int 0))) := by
  unfold isoK
  refine sDo_of1 (nL := 2) (L := [some (.ref q), some (.int x)]) (by omega) rfl rfl ?_
  refine g_iload_n (i := 1) rfl rfl ?_
  refine g_iconst (n := 2) rfl ?_
  have k_2 : (Int32.ofInt 2).toInt = 2 := rfl
  refine g_icmp_eq 13 rfl rfl (fun c_1 => ?_) (fun c_1 => ?_)
  · skip
    rw [i_eq, k_2] at c_1
    refine g_iconst (n := 1) rfl ?_
    refine g_goto 18 rfl rfl ?_
    refine g_ireturn (ty := .boolean) rfl rfl (by decide) ?_
    exact ⟨rfl, Or.inl ⟨by omega, rfl⟩⟩
  · skip
    rw [i_eq, k_2] at c_1
    refine g_aload_n (i := 0) rfl rfl ?_
    refine g_iload_n (i := 1) rfl rfl ?_
    refine g_init1 (Qc := fun r h' => h' = h ∧ (((isoK 0 x.toInt) ∧ r = some (.int 1)) ∨ (¬ (isoK 0 x.toInt) ∧ r = some (.int 0)))) rfl (by decide) rfl a (Nat.le_of_ble_eq_true rfl) (s_iso0 (by omega) a) (fun r h hq9 => ?_)
    obtain ⟨rfl, ⟨c_3, rfl⟩ | ⟨c_3, rfl⟩⟩ := hq9
    · skip
      unfold isoK at c_3
      refine g_if_eq 17 rfl rfl (fun hc => absurd hc (by decide)) (fun _ => ?_)
      refine g_iconst (n := 1) rfl ?_
      refine g_goto 18 rfl rfl ?_
      refine g_ireturn (ty := .boolean) rfl rfl (by decide) ?_
      exact ⟨rfl, Or.inl ⟨by omega, rfl⟩⟩
    · skip
      unfold isoK at c_3
      refine g_if_eq 17 rfl rfl (fun _ => ?_) (fun hc => absurd hc (by decide))
      refine g_iconst (n := 0) rfl ?_
      refine g_ireturn (ty := .boolean) rfl rfl (by decide) ?_
      exact ⟨rfl, Or.inr ⟨by omega, rfl⟩⟩
theorem s_iso3 {d : Nat} {h : sHp} {q : Nat} {x : Int32} {z : Nat × List Value} (hd : 2 ≤ d) (a : h[q]? = some (.inr z)) : sDo d 60 [.ref q, .int x] h (fun r h' => h' = h ∧ (isoK 3 x.toInt ∧ r = some (.int 1) ∨ ¬ isoK 3 x.toInt ∧ r = some (.int 0))) := by
  unfold isoK
  refine sDo_of1 (nL := 2) (L := [some (.ref q), some (.int x)]) (by omega) rfl rfl ?_
  refine g_iload_n (i := 1) rfl rfl ?_
  refine g_iconst (n := 3) rfl ?_
  have k_2 : (Int32.ofInt 3).toInt = 3 := rfl
  refine g_icmp_eq 13 rfl rfl (fun c_1 => ?_) (fun c_1 => ?_)
  · skip
    rw [i_eq, k_2] at c_1
    refine g_iconst (n := 1) rfl ?_
    refine g_goto 18 rfl rfl ?_
    refine g_ireturn (ty := .boolean) rfl rfl (by decide) ?_
    exact ⟨rfl, Or.inl ⟨by omega, rfl⟩⟩
  · skip
    rw [i_eq, k_2] at c_1
    refine g_aload_n (i := 0) rfl rfl ?_
    refine g_iload_n (i := 1) rfl rfl ?_
    refine g_init1 (Qc := fun r h' => h' = h ∧ (((isoK 0 x.toInt) ∧ r = some (.int 1)) ∨ (¬ (isoK 0 x.toInt) ∧ r = some (.int 0)))) rfl (by decide) rfl a (Nat.le_of_ble_eq_true rfl) (s_iso0 (by omega) a) (fun r h hq9 => ?_)
    obtain ⟨rfl, ⟨c_3, rfl⟩ | ⟨c_3, rfl⟩⟩ := hq9
    · skip
      unfold isoK at c_3
      refine g_if_eq 17 rfl rfl (fun hc => absurd hc (by decide)) (fun _ => ?_)
      refine g_iconst (n := 1) rfl ?_
      refine g_goto 18 rfl rfl ?_
      refine g_ireturn (ty := .boolean) rfl rfl (by decide) ?_
      exact ⟨rfl, Or.inl ⟨by omega, rfl⟩⟩
    · skip
      unfold isoK at c_3
      refine g_if_eq 17 rfl rfl (fun _ => ?_) (fun hc => absurd hc (by decide))
      refine g_iconst (n := 0) rfl ?_
      refine g_ireturn (ty := .boolean) rfl rfl (by decide) ?_
      exact ⟨rfl, Or.inr ⟨by omega, rfl⟩⟩
theorem s_iso4 {d : Nat} {h : sHp} {q : Nat} {x : Int32} {z : Nat × List Value} (hd : 3 ≤ d) (a : h[q]? = some (.inr z)) : sDo d 1 [.ref q, .int x] h (fun r h' => h' = h ∧ (isoK 4 x.toInt ∧ r = some (.int 1) ∨ ¬ isoK 4 x.toInt ∧ r = some (.int 0))) := by
  unfold isoK
  refine sDo_of1 (nL := 2) (L := [some (.ref q), some (.int x)]) (by omega) rfl rfl ?_
  refine g_iload_n (i := 1) rfl rfl ?_
  refine g_iconst (n := 4) rfl ?_
  have k_2 : (Int32.ofInt 4).toInt = 4 := rfl
  refine g_icmp_eq 13 rfl rfl (fun c_1 => ?_) (fun c_1 => ?_)
  · skip
    rw [i_eq, k_2] at c_1
    refine g_iconst (n := 1) rfl ?_
    refine g_goto 18 rfl rfl ?_
    refine g_ireturn (ty := .boolean) rfl rfl (by decide) ?_
    exact ⟨rfl, Or.inl ⟨by omega, rfl⟩⟩
  · skip
    rw [i_eq, k_2] at c_1
    refine g_aload_n (i := 0) rfl rfl ?_
    refine g_iload_n (i := 1) rfl rfl ?_
    refine g_init1 (Qc := fun r h' => h' = h ∧ (((isoK 1 x.toInt) ∧ r = some (.int 1)) ∨ (¬ (isoK 1 x.toInt) ∧ r = some (.int 0)))) rfl (by decide) rfl a (Nat.le_of_ble_eq_true rfl) (s_iso1 (by omega) a) (fun r h hq9 => ?_)
    obtain ⟨rfl, ⟨c_3, rfl⟩ | ⟨c_3, rfl⟩⟩ := hq9
    · skip
      unfold isoK at c_3
      refine g_if_eq 17 rfl rfl (fun hc => absurd hc (by decide)) (fun _ => ?_)
      refine g_iconst (n := 1) rfl ?_
      refine g_goto 18 rfl rfl ?_
      refine g_ireturn (ty := .boolean) rfl rfl (by decide) ?_
      exact ⟨rfl, Or.inl ⟨by omega, rfl⟩⟩
    · skip
      unfold isoK at c_3
      refine g_if_eq 17 rfl rfl (fun _ => ?_) (fun hc => absurd hc (by decide))
      refine g_iconst (n := 0) rfl ?_
      refine g_ireturn (ty := .boolean) rfl rfl (by decide) ?_
      exact ⟨rfl, Or.inr ⟨by omega, rfl⟩⟩
theorem s_iso5 {d : Nat} {h : sHp} {q : Nat} {x : Int32} {z : Nat × List Value} (hd : 3 ≤ d) (a : h[q]? = some (.inr z)) : sDo d 56 [.ref q, .int x] h (fun r h' => h' = h ∧ (isoK 5 x.toInt ∧ r = some (.int 1) ∨ ¬ isoK 5 x.toInt ∧ r = some (.int 0))) := by
  unfold isoK
  refine sDo_of1 (nL := 2) (L := [some (.ref q), some (.int x)]) (by omega) rfl rfl ?_
  refine g_iload_n (i := 1) rfl rfl ?_
  refine g_iconst (n := 5) rfl ?_
  have k_2 : (Int32.ofInt 5).toInt = 5 := rfl
  refine g_icmp_eq 13 rfl rfl (fun c_1 => ?_) (fun c_1 => ?_)
  · skip
    rw [i_eq, k_2] at c_1
    refine g_iconst (n := 1) rfl ?_
    refine g_goto 18 rfl rfl ?_
    refine g_ireturn (ty := .boolean) rfl rfl (by decide) ?_
    exact ⟨rfl, Or.inl ⟨by omega, rfl⟩⟩
  · skip
    rw [i_eq, k_2] at c_1
    refine g_aload_n (i := 0) rfl rfl ?_
    refine g_iload_n (i := 1) rfl rfl ?_
    refine g_init1 (Qc := fun r h' => h' = h ∧ (((isoK 1 x.toInt) ∧ r = some (.int 1)) ∨ (¬ (isoK 1 x.toInt) ∧ r = some (.int 0)))) rfl (by decide) rfl a (Nat.le_of_ble_eq_true rfl) (s_iso1 (by omega) a) (fun r h hq9 => ?_)
    obtain ⟨rfl, ⟨c_3, rfl⟩ | ⟨c_3, rfl⟩⟩ := hq9
    · skip
      unfold isoK at c_3
      refine g_if_eq 17 rfl rfl (fun hc => absurd hc (by decide)) (fun _ => ?_)
      refine g_iconst (n := 1) rfl ?_
      refine g_goto 18 rfl rfl ?_
      refine g_ireturn (ty := .boolean) rfl rfl (by decide) ?_
      exact ⟨rfl, Or.inl ⟨by omega, rfl⟩⟩
    · skip
      unfold isoK at c_3
      refine g_if_eq 17 rfl rfl (fun _ => ?_) (fun hc => absurd hc (by decide))
      refine g_iconst (n := 0) rfl ?_
      refine g_ireturn (ty := .boolean) rfl rfl (by decide) ?_
      exact ⟨rfl, Or.inr ⟨by omega, rfl⟩⟩
theorem s_iso6 {d : Nat} {h : sHp} {q : Nat} {x : Int32} {z : Nat × List Value} (hd : 3 ≤ d) (a : h[q]? = some (.inr z)) : sDo d 109 [.ref q, .int x] h (fun r h' => h' = h ∧ (isoK 6 x.toInt ∧ r = some (.int 1) ∨ ¬ isoK 6 x.toInt ∧ r = some (.int 0))) := by
  unfold isoK
  refine sDo_of1 (nL := 2) (L := [some (.ref q), some (.int x)]) (by omega) rfl rfl ?_
  refine g_iload_n (i := 1) rfl rfl ?_
  refine g_bipush (n := 6) rfl ?_
  have k_2 : ((Int8.ofInt 6).toInt32).toInt = 6 := rfl
  refine g_icmp_eq 14 rfl rfl (fun c_1 => ?_) (fun c_1 => ?_)
  · skip
    rw [i_eq, k_2] at c_1
    refine g_iconst (n := 1) rfl ?_
    refine g_goto 19 rfl rfl ?_
    refine g_ireturn (ty := .boolean) rfl rfl (by decide) ?_
    exact ⟨rfl, Or.inl ⟨by omega, rfl⟩⟩
  · skip
    rw [i_eq, k_2] at c_1
    refine g_aload_n (i := 0) rfl rfl ?_
    refine g_iload_n (i := 1) rfl rfl ?_
    refine g_init1 (Qc := fun r h' => h' = h ∧ (((isoK 2 x.toInt) ∧ r = some (.int 1)) ∨ (¬ (isoK 2 x.toInt) ∧ r = some (.int 0)))) rfl (by decide) rfl a (Nat.le_of_ble_eq_true rfl) (s_iso2 (by omega) a) (fun r h hq9 => ?_)
    obtain ⟨rfl, ⟨c_3, rfl⟩ | ⟨c_3, rfl⟩⟩ := hq9
    · skip
      unfold isoK at c_3
      refine g_if_eq 18 rfl rfl (fun hc => absurd hc (by decide)) (fun _ => ?_)
      refine g_iconst (n := 1) rfl ?_
      refine g_goto 19 rfl rfl ?_
      refine g_ireturn (ty := .boolean) rfl rfl (by decide) ?_
      exact ⟨rfl, Or.inl ⟨by omega, rfl⟩⟩
    · skip
      unfold isoK at c_3
      refine g_if_eq 18 rfl rfl (fun _ => ?_) (fun hc => absurd hc (by decide))
      refine g_iconst (n := 0) rfl ?_
      refine g_ireturn (ty := .boolean) rfl rfl (by decide) ?_
      exact ⟨rfl, Or.inr ⟨by omega, rfl⟩⟩
theorem fam_o {d : Nat} {h : sHp} {q C : Nat} {x : Int32} {z : List Value} (hd : 3 ≤ d) (hc : C < 7000) (a : h[q]? = some (.inr (bKl7 (C / 1000), z))) : sDo d (sVt 1000 (bKl7 (C / 1000))) [.ref q, .int x] h (fun r h' => h' = h ∧ (isoK (C / 1000) x.toInt ∧ r = some (.int 1) ∨ ¬ isoK (C / 1000) x.toInt ∧ r = some (.int 0))) := by
  rcases (show C / 1000 = 0 ∨ C / 1000 = 1 ∨ C / 1000 = 2 ∨ C / 1000 = 3 ∨ C / 1000 = 4 ∨ C / 1000 = 5 ∨ C / 1000 = 6 by omega) with k | k | k | k | k | k | k
  · rw [k] at a ⊢
    exact s_iso0 (by omega) a
  · rw [k] at a ⊢
    exact s_iso1 (by omega) a
  · rw [k] at a ⊢
    exact s_iso2 (by omega) a
  · rw [k] at a ⊢
    exact s_iso3 (by omega) a
  · rw [k] at a ⊢
    exact s_iso4 (by omega) a
  · rw [k] at a ⊢
    exact s_iso5 (by omega) a
  · rw [k] at a ⊢
    exact s_iso6 (by omega) a
/-- what a cut says, taken for one of a kind -/
def tlS (W n C : Nat) (k : Int) : Int32 := if k = 1 then Int32.ofNat (cnt (sdS W n C 1)) else if k = 2 ∨ k = 6 then Int32.ofNat (C / 10 % 10) else if k = 3 then Int32.ofNat (cnt (sdS W n C 2)) else if k = 4 then Int32.ofNat (C / 100 % 10) else if k = 5 then Int32.ofNat ((C / 100 % 10) * (C / 10 % 10)) else Int32.ofNat (cnt (sdS W n C 0))
theorem dg_le {a b : Nat} (ha : a < 10) (hb : b < 10) : a * b < 100 := Nat.lt_of_le_of_lt (Nat.mul_le_mul (show a ≤ 9 by omega) (show b ≤ 9 by omega)) (by decide)
theorem of_n {x : Int32} {X : Nat} (h : x.toInt = X) (hX : X < 1000) : x = Int32.ofNat X := Int32.toInt_inj.mp (by rw [h, ofN_toInt hX])
theorem s_toldAs {d : Nat} {h : sHp} {ik tf : Int32} {c : CF} {W H : Nat} {x : Int32} {S pc C : Nat} {k : Int32} (hd : 6 ≤ d) (h0 : h[0]? = some (cO ik tf)) (F : FC h 5 c) (g : gdF c W H) (hc : C < 7000) (a : h[pc]? = some (.inr (bKl7 (C / 1000), cutFs (Int32.ofNat S) x))) (hx : x.toInt = C) : sDo d 166 [.ref 0, .ref pc, .int k] h (fun r h' => h' = h ∧ r = some (.int (tlS W (W * H) C k.toInt))) := by
  have hgr : sGrp (bKl7 (C / 1000)) = 2 := by
    rcases (show C / 1000 = 0 ∨ C / 1000 = 1 ∨ C / 1000 = 2 ∨ C / 1000 = 3 ∨ C / 1000 = 4 ∨ C / 1000 = 5 ∨ C / 1000 = 6 by omega) with k | k | k | k | k | k | k <;> (rw [k]; decide)
  have ha := cD_100 hx
  have hb := cD_10 hx
  have hab := dg_le (show C / 100 % 10 < 10 by omega) (show C / 10 % 10 < 10 by omega)
  have sd0 := fun k => s_sideOf11 (d := d - 1) (side := k) (by omega) h0 rfl F g hc rfl a hx
  refine sDo_of1 (nL := 3) (L := [some (.ref 0), some (.ref pc), some (.int k)]) (by omega) rfl rfl ?_
  have hg := hgr
  refine g_iload_n (i := 2) rfl rfl ?_
  rcases (show k.toInt = 1 ∨ k.toInt = 2 ∨ k.toInt = 3 ∨ k.toInt = 4 ∨ k.toInt = 5 ∨ k.toInt = 6 ∨ (k.toInt < 1 ∨ 6 < k.toInt) by omega) with hs | hs | hs | hs | hs | hs | hs
  · skip
    refine g_tsIn 0 40 rfl (by omega) (by rw [hs]; rfl) rfl rfl ?_
    refine g_aload_n (i := 0) rfl rfl ?_
    refine g_aload_n (i := 1) rfl rfl ?_
    refine g_iconst (n := 1) rfl ?_
    refine g_virt2 (Qc := fun r h' => h' = h ∧ r = some (.long (sdS W (W * H) C 1))) rfl (by decide) rfl h0 rfl (Nat.le_of_ble_eq_true rfl) (sd0 ((Int32.ofInt 1))) (fun r h hq9 => ?_)
    obtain ⟨rfl, rfl⟩ := hq9
    refine g_static1 (Qc := fun r h' => h' = h ∧ r = some (.int (Int32.ofNat (cnt (sdS W (W * H) C 1))))) rfl (by decide) rfl (Nat.le_of_ble_eq_true rfl) (s_bitCount (by omega)) (fun r h hq9 => ?_)
    obtain ⟨rfl, rfl⟩ := hq9
    refine g_ireturn (ty := .int) rfl rfl rfl ?_
    exact ⟨rfl, by unfold tlS; rw [if_pos hs]⟩
  · skip
    refine g_tsIn 1 50 rfl (by omega) (by rw [hs]; rfl) rfl rfl ?_
    refine g_aload_n (i := 1) rfl rfl ?_
    refine g_getfield (v := .int (cD x (Int8.ofInt 10).toInt32)) rfl a hg rfl ?_
    refine g_ireturn (ty := .int) rfl rfl rfl ?_
    exact ⟨rfl, by unfold tlS; rw [if_neg (by omega), if_pos (Or.inl hs)]; exact congrArg (fun z => some (Value.int z)) (of_n hb (by omega))⟩
  · skip
    refine g_tsIn 2 55 rfl (by omega) (by rw [hs]; rfl) rfl rfl ?_
    refine g_aload_n (i := 0) rfl rfl ?_
    refine g_aload_n (i := 1) rfl rfl ?_
    refine g_iconst (n := 2) rfl ?_
    refine g_virt2 (Qc := fun r h' => h' = h ∧ r = some (.long (sdS W (W * H) C 2))) rfl (by decide) rfl h0 rfl (Nat.le_of_ble_eq_true rfl) (sd0 ((Int32.ofInt 2))) (fun r h hq9 => ?_)
    obtain ⟨rfl, rfl⟩ := hq9
    refine g_static1 (Qc := fun r h' => h' = h ∧ r = some (.int (Int32.ofNat (cnt (sdS W (W * H) C 2))))) rfl (by decide) rfl (Nat.le_of_ble_eq_true rfl) (s_bitCount (by omega)) (fun r h hq9 => ?_)
    obtain ⟨rfl, rfl⟩ := hq9
    refine g_ireturn (ty := .int) rfl rfl rfl ?_
    exact ⟨rfl, by unfold tlS; rw [if_neg (by omega), if_neg (by omega), if_pos hs]⟩
  · skip
    refine g_tsIn 3 65 rfl (by omega) (by rw [hs]; rfl) rfl rfl ?_
    refine g_aload_n (i := 1) rfl rfl ?_
    refine g_getfield (v := .int (cD x (Int8.ofInt 100).toInt32)) rfl a hg rfl ?_
    refine g_ireturn (ty := .int) rfl rfl rfl ?_
    exact ⟨rfl, by unfold tlS; rw [if_neg (by omega), if_neg (by omega), if_neg (by omega), if_pos hs]; exact congrArg (fun z => some (Value.int z)) (of_n ha (by omega))⟩
  · skip
    refine g_tsIn 4 70 rfl (by omega) (by rw [hs]; rfl) rfl rfl ?_
    refine g_aload_n (i := 1) rfl rfl ?_
    refine g_getfield (v := .int (cD x (Int8.ofInt 100).toInt32)) rfl a hg rfl ?_
    refine g_aload_n (i := 1) rfl rfl ?_
    refine g_getfield (v := .int (cD x (Int8.ofInt 10).toInt32)) rfl a hg rfl ?_
    refine g_imul rfl ?_
    refine g_ireturn (ty := .int) rfl rfl rfl ?_
    exact ⟨rfl, by unfold tlS; rw [if_neg (by omega), if_neg (by omega), if_neg (by omega), if_neg (by omega), if_pos hs]; exact congrArg (fun z => some (Value.int z)) (of_n (n_mul ha hb (by omega)) (by omega))⟩
  · skip
    refine g_tsIn 5 50 rfl (by omega) (by rw [hs]; rfl) rfl rfl ?_
    refine g_aload_n (i := 1) rfl rfl ?_
    refine g_getfield (v := .int (cD x (Int8.ofInt 10).toInt32)) rfl a hg rfl ?_
    refine g_ireturn (ty := .int) rfl rfl rfl ?_
    exact ⟨rfl, by unfold tlS; rw [if_neg (by omega), if_pos (Or.inr hs)]; exact congrArg (fun z => some (Value.int z)) (of_n hb (by omega))⟩
  · skip
    refine g_tsOut 80 rfl (by omega) rfl ?_
    refine g_aload_n (i := 0) rfl rfl ?_
    refine g_aload_n (i := 1) rfl rfl ?_
    refine g_iconst (n := 0) rfl ?_
    refine g_virt2 (Qc := fun r h' => h' = h ∧ r = some (.long (sdS W (W * H) C 0))) rfl (by decide) rfl h0 rfl (Nat.le_of_ble_eq_true rfl) (sd0 ((Int32.ofInt 0))) (fun r h hq9 => ?_)
    obtain ⟨rfl, rfl⟩ := hq9
    refine g_static1 (Qc := fun r h' => h' = h ∧ r = some (.int (Int32.ofNat (cnt (sdS W (W * H) C 0))))) rfl (by decide) rfl (Nat.le_of_ble_eq_true rfl) (s_bitCount (by omega)) (fun r h hq9 => ?_)
    obtain ⟨rfl, rfl⟩ := hq9
    refine g_ireturn (ty := .int) rfl rfl rfl ?_
    exact ⟨rfl, by unfold tlS; rw [if_neg (by omega), if_neg (by omega), if_neg (by omega), if_neg (by omega), if_neg (by omega)]⟩
/-- says: refused for the shelf or the kind -/
theorem s_says11n {d : Nat} {h : sHp} {ik tf s k b : Int32} {R : Nat → Int32} {B : Nat} (hd : 3 ≤ d) (h0 : h[0]? = some (cO ik tf)) (hR : h[43]? = some (rFc R)) (hb : b.toInt = -(B : Int)) (hB : 1 ≤ B ∧ B ≤ 7) (hno : sDo (d - 1) 162 [.ref 0, .int s] h (fun r h' => h' = h ∧ r = some (.int b))) : sDo d 120 [.ref 0, .int s, .int k] h (fun r h' => (B = 1 ∨ k.toInt < 0 ∨ 6 < k.toInt) ∧ r = some (.int (-1)) ∧ h' = h.set 43 (rFc (bump R 1)) ∨ (¬ (B = 1 ∨ k.toInt < 0 ∨ 6 < k.toInt)) ∧ r = some (.int b) ∧ h' = h.set 43 (rFc (bump R B))) := by
  have hb0 : ¬ b = 0 := fun z => by rw [z] at hb; have e : (0 : Int32).toInt = 0 := rfl; omega
  refine sDo_of1 (nL := 4) (L := [some (.ref 0), some (.int s), some (.int k), none]) (by omega) rfl rfl ?_
  refine g_aload_n (i := 0) rfl rfl ?_
  refine g_iload_n (i := 1) rfl rfl ?_
  refine g_virt1 (Qc := fun r h' => h' = h ∧ r = some (.int b)) rfl (by decide) rfl h0 rfl (Nat.le_of_ble_eq_true rfl) (hno) (fun r h hq9 => ?_)
  obtain ⟨rfl, rfl⟩ := hq9
  refine g_istore_n (i := 3) (L1 := [some (.ref 0), some (.int s), some (.int k), some (.int b)]) rfl (Nat.le_of_ble_eq_true rfl) rfl ?_
  refine g_iload_n (i := 3) rfl rfl ?_
  refine g_iconst (n := (-1)) rfl ?_
  have k_2 : (Int32.ofInt (-1)).toInt = (-1) := rfl
  refine g_icmp_eq 21 rfl rfl (fun c_1 => ?_) (fun c_1 => ?_)
  · skip
    rw [i_eq, hb, k_2] at c_1
    refine g_aload_n (i := 0) rfl rfl ?_
    refine g_iconst (n := (-1)) rfl ?_
    refine g_virt1 (Qc := fun r h' => r = some (.int (-1)) ∧ h' = h.set 43 (rFc (bump R 1))) rfl (by decide) rfl h0 rfl (Nat.le_of_ble_eq_true rfl) (s_refuse2 (X := 1) (by omega) h0 hR rfl (by decide)) (fun r h9 hq9 => ?_)
    obtain ⟨rfl, rfl⟩ := hq9
    refine g_ireturn (ty := .int) rfl rfl rfl ?_
    exact Or.inl ⟨by omega, rfl, rfl⟩
  · skip
    rw [i_eq, hb, k_2] at c_1
    refine g_iload_n (i := 2) rfl rfl ?_
    have k_4 : (0 : Int32).toInt = 0 := rfl
    refine g_if_lt 21 rfl rfl (fun c_3 => ?_) (fun c_3 => ?_)
    · skip
      rw [i_lt, k_4] at c_3
      refine g_aload_n (i := 0) rfl rfl ?_
      refine g_iconst (n := (-1)) rfl ?_
      refine g_virt1 (Qc := fun r h' => r = some (.int (-1)) ∧ h' = h.set 43 (rFc (bump R 1))) rfl (by decide) rfl h0 rfl (Nat.le_of_ble_eq_true rfl) (s_refuse2 (X := 1) (by omega) h0 hR rfl (by decide)) (fun r h9 hq9 => ?_)
      obtain ⟨rfl, rfl⟩ := hq9
      refine g_ireturn (ty := .int) rfl rfl rfl ?_
      exact Or.inl ⟨by omega, rfl, rfl⟩
    · skip
      rw [i_lt, k_4] at c_3
      refine g_iload_n (i := 2) rfl rfl ?_
      refine g_bipush (n := 7) rfl ?_
      have k_6 : ((Int8.ofInt 7).toInt32).toInt = 7 := rfl
      refine g_icmp_lt 27 rfl rfl (fun c_5 => ?_) (fun c_5 => ?_)
      · skip
        rw [i_lt, k_6] at c_5
        refine g_iload_n (i := 3) rfl rfl ?_
        refine g_if_eq 37 rfl rfl (fun hc => absurd hc (by exact hb0)) (fun _ => ?_)
        refine g_aload_n (i := 0) rfl rfl ?_
        refine g_iload_n (i := 3) rfl rfl ?_
        refine g_virt1 (Qc := fun r h' => r = some (.int b) ∧ h' = h.set 43 (rFc (bump R B))) rfl (by decide) rfl h0 rfl (Nat.le_of_ble_eq_true rfl) (s_refuse2 (by omega) h0 hR hb hB) (fun r h9 hq9 => ?_)
        obtain ⟨rfl, rfl⟩ := hq9
        refine g_ireturn (ty := .int) rfl rfl rfl ?_
        exact Or.inr ⟨by omega, rfl, rfl⟩
      · skip
        rw [i_lt, k_6] at c_5
        refine g_aload_n (i := 0) rfl rfl ?_
        refine g_iconst (n := (-1)) rfl ?_
        refine g_virt1 (Qc := fun r h' => r = some (.int (-1)) ∧ h' = h.set 43 (rFc (bump R 1))) rfl (by decide) rfl h0 rfl (Nat.le_of_ble_eq_true rfl) (s_refuse2 (X := 1) (by omega) h0 hR rfl (by decide)) (fun r h9 hq9 => ?_)
        obtain ⟨rfl, rfl⟩ := hq9
        refine g_ireturn (ty := .int) rfl rfl rfl ?_
        exact Or.inl ⟨by omega, rfl, rfl⟩
theorem s_says11c {d : Nat} {h : sHp} {ik tf : Int32} {c : CF} {W H : Nat} {gg : Nat → Option Nat} {s x : Int32} {S pc C : Nat} {k : Int32} {R : Nat → Int32} (hd : 7 ≤ d) (h0 : h[0]? = some (cO ik tf)) (F : FC h 5 c) (g : gdF c W H) (hR : h[43]? = some (rFc R)) (a3 : h[2]? = some (.inl (4, 8, .inr (.inr (.inr (.inr gg)))))) (hs : s.toInt = S) (hS : S < 8) (hg : gg S = some pc) (hc : C < 7000) (a : h[pc]? = some (.inr (bKl7 (C / 1000), cutFs (Int32.ofNat S) x))) (hx : x.toInt = C) (hno : sDo (d - 1) 162 [.ref 0, .int s] h (fun r h' => h' = h ∧ r = some (.int 0))) : sDo d 120 [.ref 0, .int s, .int k] h (fun r h' => (k.toInt < 0 ∨ 6 < k.toInt) ∧ r = some (.int (-1)) ∧ h' = h.set 43 (rFc (bump R 1)) ∨ (¬ (k.toInt < 0 ∨ 6 < k.toInt)) ∧ (¬ isoK (C / 1000) k.toInt ∧ r = some (.int (-2)) ∧ h' = h.set 43 (rFc (bump R 2)) ∨ isoK (C / 1000) k.toInt ∧ r = some (.int (tlS W (W * H) C k.toInt)) ∧ h' = h)) := by
  have hgr : sGrp (bKl7 (C / 1000)) = 2 ∧ bKl7 (C / 1000) < 11 := by
    rcases (show C / 1000 = 0 ∨ C / 1000 = 1 ∨ C / 1000 = 2 ∨ C / 1000 = 3 ∨ C / 1000 = 4 ∨ C / 1000 = 5 ∨ C / 1000 = 6 by omega) with k | k | k | k | k | k | k <;> (rw [k]; decide)
  refine sDo_of1 (nL := 4) (L := [some (.ref 0), some (.int s), some (.int k), none]) (by omega) rfl rfl ?_
  refine g_aload_n (i := 0) rfl rfl ?_
  refine g_iload_n (i := 1) rfl rfl ?_
  refine g_virt1 (Qc := fun r h' => h' = h ∧ r = some (.int 0)) rfl (by decide) rfl h0 rfl (Nat.le_of_ble_eq_true rfl) (hno) (fun r h hq9 => ?_)
  obtain ⟨rfl, rfl⟩ := hq9
  refine g_istore_n (i := 3) (L1 := [some (.ref 0), some (.int s), some (.int k), some (.int 0)]) rfl (Nat.le_of_ble_eq_true rfl) rfl ?_
  refine g_iload_n (i := 3) rfl rfl ?_
  refine g_iconst (n := (-1)) rfl ?_
  have k_2 : (0 : Int32).toInt = 0 := rfl
  have k_3 : (Int32.ofInt (-1)).toInt = (-1) := rfl
  refine g_icmp_eq 21 rfl rfl (fun c_1 => ?_) (fun c_1 => ?_)
  · skip
    rw [i_eq, k_2, k_3] at c_1
    refine g_aload_n (i := 0) rfl rfl ?_
    refine g_iconst (n := (-1)) rfl ?_
    refine g_virt1 (Qc := fun r h' => r = some (.int (-1)) ∧ h' = h.set 43 (rFc (bump R 1))) rfl (by decide) rfl h0 rfl (Nat.le_of_ble_eq_true rfl) (s_refuse2 (X := 1) (by omega) h0 hR rfl (by decide)) (fun r h9 hq9 => ?_)
    obtain ⟨rfl, rfl⟩ := hq9
    refine g_ireturn (ty := .int) rfl rfl rfl ?_
    exact Or.inl ⟨by omega, rfl, rfl⟩
  · skip
    rw [i_eq, k_2, k_3] at c_1
    refine g_iload_n (i := 2) rfl rfl ?_
    refine g_if_lt 21 rfl rfl (fun c_4 => ?_) (fun c_4 => ?_)
    · skip
      rw [i_lt, k_2] at c_4
      refine g_aload_n (i := 0) rfl rfl ?_
      refine g_iconst (n := (-1)) rfl ?_
      refine g_virt1 (Qc := fun r h' => r = some (.int (-1)) ∧ h' = h.set 43 (rFc (bump R 1))) rfl (by decide) rfl h0 rfl (Nat.le_of_ble_eq_true rfl) (s_refuse2 (X := 1) (by omega) h0 hR rfl (by decide)) (fun r h9 hq9 => ?_)
      obtain ⟨rfl, rfl⟩ := hq9
      refine g_ireturn (ty := .int) rfl rfl rfl ?_
      exact Or.inl ⟨by omega, rfl, rfl⟩
    · skip
      rw [i_lt, k_2] at c_4
      refine g_iload_n (i := 2) rfl rfl ?_
      refine g_bipush (n := 7) rfl ?_
      have k_6 : ((Int8.ofInt 7).toInt32).toInt = 7 := rfl
      refine g_icmp_lt 27 rfl rfl (fun c_5 => ?_) (fun c_5 => ?_)
      · skip
        rw [i_lt, k_6] at c_5
        refine g_iload_n (i := 3) rfl rfl ?_
        refine g_if_eq 37 rfl rfl (fun _ => ?_) (fun hc => absurd hc (by decide))
        refine g_aload_n (i := 0) rfl rfl ?_
        refine g_getfield (v := .ref 2) rfl h0 (by decide) rfl ?_
        refine g_iload_n (i := 1) rfl rfl ?_
        have gS : va_rf (gg s.toNatClampNeg) = .ref pc := by rw [i_nat hs, hg]; rfl
        refine g_aaload rfl a3 (by decide) (i_in (by omega) (by omega)) ?_
        rw [gS]
        refine g_iload_n (i := 2) rfl rfl ?_
        refine g_fam (Qc := fun r h' => h' = h ∧ (isoK (C / 1000) k.toInt ∧ r = some (.int 1) ∨ ¬ isoK (C / 1000) k.toInt ∧ r = some (.int 0))) rfl (by decide) a hgr (Nat.le_of_ble_eq_true rfl) (fam_o (by omega) hc a) (fun r h hq9 => ?_)
        obtain ⟨rfl, ⟨c_7, rfl⟩ | ⟨c_7, rfl⟩⟩ := hq9
        · skip
          refine g_if_ne 57 rfl rfl (fun _ => ?_) (fun hc => absurd hc (by decide))
          refine g_aload_n (i := 0) rfl rfl ?_
          refine g_aload_n (i := 0) rfl rfl ?_
          refine g_getfield (v := .ref 2) rfl h0 (by decide) rfl ?_
          refine g_iload_n (i := 1) rfl rfl ?_
          have gS : va_rf (gg s.toNatClampNeg) = .ref pc := by rw [i_nat hs, hg]; rfl
          refine g_aaload rfl a3 (by decide) (i_in (by omega) (by omega)) ?_
          rw [gS]
          refine g_iload_n (i := 2) rfl rfl ?_
          refine g_virt2 (Qc := fun r h' => h' = h ∧ r = some (.int (tlS W (W * H) C k.toInt))) rfl (by decide) rfl h0 rfl (Nat.le_of_ble_eq_true rfl) (s_toldAs (by omega) h0 F g hc a hx) (fun r h hq9 => ?_)
          obtain ⟨rfl, rfl⟩ := hq9
          refine g_ireturn (ty := .int) rfl rfl rfl ?_
          exact Or.inr ⟨by omega, Or.inr ⟨c_7, rfl, rfl⟩⟩
        · skip
          refine g_if_ne 57 rfl rfl (fun hc => absurd hc (by decide)) (fun _ => ?_)
          refine g_aload_n (i := 0) rfl rfl ?_
          refine g_bipush (n := (-2)) rfl ?_
          refine g_virt1 (Qc := fun r h' => r = some (.int (-2)) ∧ h' = h.set 43 (rFc (bump R 2))) rfl (by decide) rfl h0 rfl (Nat.le_of_ble_eq_true rfl) (s_refuse2 (X := 2) (by omega) h0 hR rfl (by decide)) (fun r h9 hq9 => ?_)
          obtain ⟨rfl, rfl⟩ := hq9
          refine g_ireturn (ty := .int) rfl rfl rfl ?_
          exact Or.inr ⟨by omega, Or.inl ⟨c_7, rfl, rfl⟩⟩
      · skip
        rw [i_lt, k_6] at c_5
        refine g_aload_n (i := 0) rfl rfl ?_
        refine g_iconst (n := (-1)) rfl ?_
        refine g_virt1 (Qc := fun r h' => r = some (.int (-1)) ∧ h' = h.set 43 (rFc (bump R 1))) rfl (by decide) rfl h0 rfl (Nat.le_of_ble_eq_true rfl) (s_refuse2 (X := 1) (by omega) h0 hR rfl (by decide)) (fun r h9 hq9 => ?_)
        obtain ⟨rfl, rfl⟩ := hq9
        refine g_ireturn (ty := .int) rfl rfl rfl ?_
        exact Or.inl ⟨by omega, rfl, rfl⟩
theorem s_says12 {d : Nat} {h : sHp} {J hd co R : Nat → Int32} {W H : Nat} {s k : Int32} (hd1 : 4 ≤ d) (hr : h[60]? = some (mO J)) (hR : h[61]? = some (rFc R)) (a4 : h[67]? = some (.inl (0, 8, .inl hd))) (g : gdM J W H) (a7 : h[70]? = some (.inl (0, 8, .inl co))) (h3 : ∀ S, S < 8 → hd S = 0 ∨ hd S = 1 ∨ hd S = 2) (hco : ∀ S, S < 8 → hd S = 2 → 0 ≤ (co S).toInt ∧ (co S).toInt < 7000) : sDo d 189 [.ref 60, .int s, .int k] h (fun r h' => ((¬ (0 ≤ s.toInt ∧ s.toInt < 8) ∨ (k.toInt < 0 ∨ 6 < k.toInt)) ∧ r = some (.int (-1))) ∨ ((¬ (¬ (0 ≤ s.toInt ∧ s.toInt < 8) ∨ (k.toInt < 0 ∨ 6 < k.toInt))) ∧ ((hd s.toInt.toNat = 1 ∧ r = some (.int (-2))) ∨ (hd s.toInt.toNat = 0 ∧ r = some (.int (-3))) ∨ (hd s.toInt.toNat = 2 ∧ ((¬ isoK ((co s.toInt.toNat).toInt.toNat / 1000) k.toInt ∧ r = some (.int (-2))) ∨ (isoK ((co s.toInt.toNat).toInt.toNat / 1000) k.toInt ∧ r = some (.int (tlS W (W * H) (co s.toInt.toNat).toInt.toNat k.toInt)))))))) := by
  refine sDo_of1 (nL := 5) (L := [some (.ref 60), some (.int s), some (.int k), none, none]) (by omega) rfl rfl ?_
  refine g_aload_n (i := 0) rfl rfl ?_
  refine g_iload_n (i := 1) rfl rfl ?_
  refine g_virt1 (Qc := fun r h' => h' = h ∧ (((0 ≤ s.toInt ∧ s.toInt < 8) ∧ r = some (.int 1)) ∨ (¬ (0 ≤ s.toInt ∧ s.toInt < 8) ∧ r = some (.int 0)))) rfl (by decide) rfl hr rfl (Nat.le_of_ble_eq_true rfl) (s_sh12z (by omega)) (fun r h hq9 => ?_)
  obtain ⟨rfl, ⟨c_1, rfl⟩ | ⟨c_1, rfl⟩⟩ := hq9
  · skip
    obtain ⟨S, hs⟩ : ∃ S : Nat, s.toInt = S := ⟨s.toInt.toNat, by omega⟩
    rw [show s.toInt.toNat = S by omega]
    have k1 : (1 : Int32).toInt = 1 := rfl
    have k0 : (0 : Int32).toInt = 0 := rfl
    have k2 : (2 : Int32).toInt = 2 := rfl
    refine g_if_eq 18 rfl rfl (fun hc => absurd hc (by decide)) (fun _ => ?_)
    refine g_iload_n (i := 2) rfl rfl ?_
    have k_3 : (0 : Int32).toInt = 0 := rfl
    refine g_if_lt 18 rfl rfl (fun c_2 => ?_) (fun c_2 => ?_)
    · skip
      rw [i_lt, k_3] at c_2
      refine g_aload_n (i := 0) rfl rfl ?_
      refine g_iconst (n := (-1)) rfl ?_
      refine g_virt1 (Qc := fun r h' => r = some (.int (-1)) ∧ h' = h.set 61 (rFc (bump R 1))) rfl (by decide) rfl hr rfl (Nat.le_of_ble_eq_true rfl) (s_no2 (X := 1) (by omega) hr hR rfl (by decide)) (fun r h9 hq9 => ?_)
      obtain ⟨rfl, rfl⟩ := hq9
      refine g_ireturn (ty := .int) rfl rfl rfl ?_
      exact Or.inl ⟨by omega, rfl⟩
    · skip
      rw [i_lt, k_3] at c_2
      refine g_iload_n (i := 2) rfl rfl ?_
      refine g_bipush (n := 6) rfl ?_
      have k_5 : ((Int8.ofInt 6).toInt32).toInt = 6 := rfl
      refine g_icmp_le 24 rfl rfl (fun c_4 => ?_) (fun c_4 => ?_)
      · skip
        rw [i_le, k_5] at c_4
        refine g_aload_n (i := 0) rfl rfl ?_
        refine g_getfield (v := .ref 67) rfl hr (by decide) rfl ?_
        refine g_iload_n (i := 1) rfl rfl ?_
        refine g_iaload (n := 8) (f := hd) rfl a4 (i_in (by omega) (by omega)) ?_
        rw [i_nat hs]
        refine g_iconst (n := 1) rfl ?_
        have k_7 : (Int32.ofInt 1).toInt = 1 := rfl
        refine g_icmp_ne 41 rfl rfl (fun c_6 => ?_) (fun c_6 => ?_)
        · skip
          rw [i_eq, k_7] at c_6
          refine g_aload_n (i := 0) rfl rfl ?_
          refine g_getfield (v := .ref 67) rfl hr (by decide) rfl ?_
          refine g_iload_n (i := 1) rfl rfl ?_
          refine g_iaload (n := 8) (f := hd) rfl a4 (i_in (by omega) (by omega)) ?_
          rw [i_nat hs]
          refine g_if_ne 57 rfl rfl (fun c_8 => ?_) (fun c_8 => ?_)
          · skip
            rw [i_eq, k_3] at c_8
            refine g_aload_n (i := 0) rfl rfl ?_
            refine g_getfield (v := .ref 70) rfl hr (by decide) rfl ?_
            refine g_iload_n (i := 1) rfl rfl ?_
            have h2 : hd S = 2 := by
              rcases h3 S (by omega) with e | e | e
              · exfalso; have := congrArg Int32.toInt e; omega
              · exfalso; have := congrArg Int32.toInt e; omega
              · exact e
            obtain ⟨c0, c7⟩ := hco S (by omega) h2
            obtain ⟨C, hC⟩ : ∃ C : Nat, (co S).toInt = C := ⟨(co S).toInt.toNat, by omega⟩
            rw [show (co S).toInt.toNat = C by omega]
            have sd0 := fun k => s_sideOf12 (d := d - 1) (side := k) (by omega) hr g hC (by omega)
            refine g_iaload (n := 8) (f := co) rfl a7 (i_in (by omega) (by omega)) ?_
            rw [i_nat hs]
            refine g_istore_n (i := 3) (L1 := [some (.ref 60), some (.int s), some (.int k), some (.int (co S)), none]) rfl (Nat.le_of_ble_eq_true rfl) rfl ?_
            refine g_iload_n (i := 3) rfl rfl ?_
            refine g_sipush (n := 1000) rfl ?_
            have k_9 : ((Int16.ofInt 1000).toInt32).toInt = 1000 := rfl
            refine g_idiv rfl (by decide) ?_
            have t_10 : (((co S) / (Int16.ofInt 1000).toInt32)).toInt = ((C / 1000 : Nat) : Int) := n_div (X := C) (Y := 1000) hC (show _ = ((1000 : Nat) : Int) from k_9) (by omega)
            refine g_istore (i := 4) (L1 := [some (.ref 60), some (.int s), some (.int k), some (.int (co S)), some (.int ((co S) / (Int16.ofInt 1000).toInt32))]) rfl (Nat.le_of_ble_eq_true rfl) rfl ?_
            refine g_iload_n (i := 2) rfl rfl ?_
            refine g_if_eq 117 rfl rfl (fun c_11 => ?_) (fun c_11 => ?_)
            · skip
              rw [i_eq, k_3] at c_11
              refine g_iload_n (i := 2) rfl rfl ?_
              have hk : k.toInt = 0 ∨ k.toInt = 1 ∨ k.toInt = 2 ∨ k.toInt = 3 ∨ k.toInt = 4 ∨ k.toInt = 5 ∨ k.toInt = 6 := by omega
              have hi : isoK (C / 1000) k.toInt := by unfold isoK; omega
              have hab := dg_le (show C / 100 % 10 < 10 by omega) (show C / 10 % 10 < 10 by omega)
              rcases hk with hs2 | hs2 | hs2 | hs2 | hs2 | hs2 | hs2
              · skip
                refine g_tsIn 0 156 rfl (by omega) (by rw [hs2]; rfl) rfl rfl ?_
                refine g_aload_n (i := 0) rfl rfl ?_
                refine g_aload_n (i := 0) rfl rfl ?_
                refine g_iload_n (i := 3) rfl rfl ?_
                refine g_iconst (n := 0) rfl ?_
                refine g_virt2 (Qc := fun r h' => h' = h ∧ r = some (.long (sdS W (W * H) C 0))) rfl (by decide) rfl hr rfl (Nat.le_of_ble_eq_true rfl) (sd0 ((Int32.ofInt 0))) (fun r h hq9 => ?_)
                obtain ⟨rfl, rfl⟩ := hq9
                refine g_virt1 (Qc := fun r h' => h' = h ∧ r = some (.int (Int32.ofNat (cnt (sdS W (W * H) C 0))))) rfl (by decide) rfl hr rfl (Nat.le_of_ble_eq_true rfl) (s_manyE (by omega)) (fun r h hq9 => ?_)
                obtain ⟨rfl, rfl⟩ := hq9
                refine g_ireturn (ty := .int) rfl rfl rfl ?_
                exact Or.inr ⟨by omega, Or.inr (Or.inr ⟨h2, Or.inr ⟨hi, by unfold tlS; rw [if_neg (by omega), if_neg (by omega), if_neg (by omega), if_neg (by omega), if_neg (by omega)]⟩⟩)⟩
              · skip
                refine g_tsIn 1 167 rfl (by omega) (by rw [hs2]; rfl) rfl rfl ?_
                refine g_aload_n (i := 0) rfl rfl ?_
                refine g_aload_n (i := 0) rfl rfl ?_
                refine g_iload_n (i := 3) rfl rfl ?_
                refine g_iconst (n := 1) rfl ?_
                refine g_virt2 (Qc := fun r h' => h' = h ∧ r = some (.long (sdS W (W * H) C 1))) rfl (by decide) rfl hr rfl (Nat.le_of_ble_eq_true rfl) (sd0 ((Int32.ofInt 1))) (fun r h hq9 => ?_)
                obtain ⟨rfl, rfl⟩ := hq9
                refine g_virt1 (Qc := fun r h' => h' = h ∧ r = some (.int (Int32.ofNat (cnt (sdS W (W * H) C 1))))) rfl (by decide) rfl hr rfl (Nat.le_of_ble_eq_true rfl) (s_manyE (by omega)) (fun r h hq9 => ?_)
                obtain ⟨rfl, rfl⟩ := hq9
                refine g_ireturn (ty := .int) rfl rfl rfl ?_
                exact Or.inr ⟨by omega, Or.inr (Or.inr ⟨h2, Or.inr ⟨hi, by unfold tlS; rw [if_pos hs2]⟩⟩)⟩
              · skip
                refine g_tsIn 2 213 rfl (by omega) (by rw [hs2]; rfl) rfl rfl ?_
                refine g_iload_n (i := 3) rfl rfl ?_
                refine g_bipush (n := 10) rfl ?_
                have k_12 : ((Int8.ofInt 10).toInt32).toInt = 10 := rfl
                refine g_idiv rfl (by decide) ?_
                have t_13 : (((co S) / (Int8.ofInt 10).toInt32)).toInt = ((C / 10 : Nat) : Int) := n_div (X := C) (Y := 10) hC (show _ = ((10 : Nat) : Int) from k_12) (by omega)
                refine g_bipush (n := 10) rfl ?_
                refine g_irem rfl (by decide) ?_
                have t_14 : ((((co S) / (Int8.ofInt 10).toInt32) - ((co S) / (Int8.ofInt 10).toInt32) / (Int8.ofInt 10).toInt32 * (Int8.ofInt 10).toInt32)).toInt = (((C / 10) % 10 : Nat) : Int) := n_rem (X := C / 10) (Y := 10) t_13 (show _ = ((10 : Nat) : Int) from k_12) (by omega)
                refine g_ireturn (ty := .int) rfl rfl rfl ?_
                have hb1 := n_rem (n_div hC (show (Int8.ofInt 10).toInt32.toInt = ((10 : Nat) : Int) from rfl) (by decide)) (show (Int8.ofInt 10).toInt32.toInt = ((10 : Nat) : Int) from rfl) (by decide)
                have ha1 := n_rem (n_div hC (show (Int8.ofInt 100).toInt32.toInt = ((100 : Nat) : Int) from rfl) (by decide)) (show (Int8.ofInt 10).toInt32.toInt = ((10 : Nat) : Int) from rfl) (by decide)
                exact Or.inr ⟨by omega, Or.inr (Or.inr ⟨h2, Or.inr ⟨hi, by unfold tlS; rw [if_neg (by omega), if_pos (Or.inl hs2)]; exact congrArg (fun z => some (Value.int z)) (of_n hb1 (by omega))⟩⟩)⟩
              · skip
                refine g_tsIn 3 178 rfl (by omega) (by rw [hs2]; rfl) rfl rfl ?_
                refine g_aload_n (i := 0) rfl rfl ?_
                refine g_aload_n (i := 0) rfl rfl ?_
                refine g_iload_n (i := 3) rfl rfl ?_
                refine g_iconst (n := 2) rfl ?_
                refine g_virt2 (Qc := fun r h' => h' = h ∧ r = some (.long (sdS W (W * H) C 2))) rfl (by decide) rfl hr rfl (Nat.le_of_ble_eq_true rfl) (sd0 ((Int32.ofInt 2))) (fun r h hq9 => ?_)
                obtain ⟨rfl, rfl⟩ := hq9
                refine g_virt1 (Qc := fun r h' => h' = h ∧ r = some (.int (Int32.ofNat (cnt (sdS W (W * H) C 2))))) rfl (by decide) rfl hr rfl (Nat.le_of_ble_eq_true rfl) (s_manyE (by omega)) (fun r h hq9 => ?_)
                obtain ⟨rfl, rfl⟩ := hq9
                refine g_ireturn (ty := .int) rfl rfl rfl ?_
                exact Or.inr ⟨by omega, Or.inr (Or.inr ⟨h2, Or.inr ⟨hi, by unfold tlS; rw [if_neg (by omega), if_neg (by omega), if_pos hs2]⟩⟩)⟩
              · skip
                refine g_tsIn 4 189 rfl (by omega) (by rw [hs2]; rfl) rfl rfl ?_
                refine g_iload_n (i := 3) rfl rfl ?_
                refine g_bipush (n := 100) rfl ?_
                have k_15 : ((Int8.ofInt 100).toInt32).toInt = 100 := rfl
                refine g_idiv rfl (by decide) ?_
                have t_16 : (((co S) / (Int8.ofInt 100).toInt32)).toInt = ((C / 100 : Nat) : Int) := n_div (X := C) (Y := 100) hC (show _ = ((100 : Nat) : Int) from k_15) (by omega)
                refine g_bipush (n := 10) rfl ?_
                have k_17 : ((Int8.ofInt 10).toInt32).toInt = 10 := rfl
                refine g_irem rfl (by decide) ?_
                have t_18 : ((((co S) / (Int8.ofInt 100).toInt32) - ((co S) / (Int8.ofInt 100).toInt32) / (Int8.ofInt 10).toInt32 * (Int8.ofInt 10).toInt32)).toInt = (((C / 100) % 10 : Nat) : Int) := n_rem (X := C / 100) (Y := 10) t_16 (show _ = ((10 : Nat) : Int) from k_17) (by omega)
                refine g_ireturn (ty := .int) rfl rfl rfl ?_
                have hb1 := n_rem (n_div hC (show (Int8.ofInt 10).toInt32.toInt = ((10 : Nat) : Int) from rfl) (by decide)) (show (Int8.ofInt 10).toInt32.toInt = ((10 : Nat) : Int) from rfl) (by decide)
                have ha1 := n_rem (n_div hC (show (Int8.ofInt 100).toInt32.toInt = ((100 : Nat) : Int) from rfl) (by decide)) (show (Int8.ofInt 10).toInt32.toInt = ((10 : Nat) : Int) from rfl) (by decide)
                exact Or.inr ⟨by omega, Or.inr (Or.inr ⟨h2, Or.inr ⟨hi, by unfold tlS; rw [if_neg (by omega), if_neg (by omega), if_neg (by omega), if_pos hs2]; exact congrArg (fun z => some (Value.int z)) (of_n ha1 (by omega))⟩⟩)⟩
              · skip
                refine g_tsIn 5 197 rfl (by omega) (by rw [hs2]; rfl) rfl rfl ?_
                refine g_iload_n (i := 3) rfl rfl ?_
                refine g_bipush (n := 100) rfl ?_
                have k_19 : ((Int8.ofInt 100).toInt32).toInt = 100 := rfl
                refine g_idiv rfl (by decide) ?_
                have t_20 : (((co S) / (Int8.ofInt 100).toInt32)).toInt = ((C / 100 : Nat) : Int) := n_div (X := C) (Y := 100) hC (show _ = ((100 : Nat) : Int) from k_19) (by omega)
                refine g_bipush (n := 10) rfl ?_
                have k_21 : ((Int8.ofInt 10).toInt32).toInt = 10 := rfl
                refine g_irem rfl (by decide) ?_
                have t_22 : ((((co S) / (Int8.ofInt 100).toInt32) - ((co S) / (Int8.ofInt 100).toInt32) / (Int8.ofInt 10).toInt32 * (Int8.ofInt 10).toInt32)).toInt = (((C / 100) % 10 : Nat) : Int) := n_rem (X := C / 100) (Y := 10) t_20 (show _ = ((10 : Nat) : Int) from k_21) (by omega)
                refine g_iload_n (i := 3) rfl rfl ?_
                refine g_bipush (n := 10) rfl ?_
                refine g_idiv rfl (by decide) ?_
                have t_23 : (((co S) / (Int8.ofInt 10).toInt32)).toInt = ((C / 10 : Nat) : Int) := n_div (X := C) (Y := 10) hC (show _ = ((10 : Nat) : Int) from k_21) (by omega)
                refine g_bipush (n := 10) rfl ?_
                refine g_irem rfl (by decide) ?_
                have t_24 : ((((co S) / (Int8.ofInt 10).toInt32) - ((co S) / (Int8.ofInt 10).toInt32) / (Int8.ofInt 10).toInt32 * (Int8.ofInt 10).toInt32)).toInt = (((C / 10) % 10 : Nat) : Int) := n_rem (X := C / 10) (Y := 10) t_23 (show _ = ((10 : Nat) : Int) from k_21) (by omega)
                refine g_imul rfl ?_
                refine g_ireturn (ty := .int) rfl rfl rfl ?_
                have hb1 := n_rem (n_div hC (show (Int8.ofInt 10).toInt32.toInt = ((10 : Nat) : Int) from rfl) (by decide)) (show (Int8.ofInt 10).toInt32.toInt = ((10 : Nat) : Int) from rfl) (by decide)
                have ha1 := n_rem (n_div hC (show (Int8.ofInt 100).toInt32.toInt = ((100 : Nat) : Int) from rfl) (by decide)) (show (Int8.ofInt 10).toInt32.toInt = ((10 : Nat) : Int) from rfl) (by decide)
                exact Or.inr ⟨by omega, Or.inr (Or.inr ⟨h2, Or.inr ⟨hi, by unfold tlS; rw [if_neg (by omega), if_neg (by omega), if_neg (by omega), if_neg (by omega), if_pos hs2]; exact congrArg (fun z => some (Value.int z)) (of_n (n_mul ha1 hb1 (by omega)) (by omega))⟩⟩)⟩
              · skip
                refine g_tsOut 213 rfl (by omega) rfl ?_
                refine g_iload_n (i := 3) rfl rfl ?_
                refine g_bipush (n := 10) rfl ?_
                have k_25 : ((Int8.ofInt 10).toInt32).toInt = 10 := rfl
                refine g_idiv rfl (by decide) ?_
                have t_26 : (((co S) / (Int8.ofInt 10).toInt32)).toInt = ((C / 10 : Nat) : Int) := n_div (X := C) (Y := 10) hC (show _ = ((10 : Nat) : Int) from k_25) (by omega)
                refine g_bipush (n := 10) rfl ?_
                refine g_irem rfl (by decide) ?_
                have t_27 : ((((co S) / (Int8.ofInt 10).toInt32) - ((co S) / (Int8.ofInt 10).toInt32) / (Int8.ofInt 10).toInt32 * (Int8.ofInt 10).toInt32)).toInt = (((C / 10) % 10 : Nat) : Int) := n_rem (X := C / 10) (Y := 10) t_26 (show _ = ((10 : Nat) : Int) from k_25) (by omega)
                refine g_ireturn (ty := .int) rfl rfl rfl ?_
                have hb1 := n_rem (n_div hC (show (Int8.ofInt 10).toInt32.toInt = ((10 : Nat) : Int) from rfl) (by decide)) (show (Int8.ofInt 10).toInt32.toInt = ((10 : Nat) : Int) from rfl) (by decide)
                have ha1 := n_rem (n_div hC (show (Int8.ofInt 100).toInt32.toInt = ((100 : Nat) : Int) from rfl) (by decide)) (show (Int8.ofInt 10).toInt32.toInt = ((10 : Nat) : Int) from rfl) (by decide)
                exact Or.inr ⟨by omega, Or.inr (Or.inr ⟨h2, Or.inr ⟨hi, by unfold tlS; rw [if_neg (by omega), if_pos (Or.inr hs2)]; exact congrArg (fun z => some (Value.int z)) (of_n hb1 (by omega))⟩⟩)⟩
            · skip
              rw [i_eq, k_3] at c_11
              refine g_iload_n (i := 2) rfl rfl ?_
              refine g_iload (i := 4) rfl rfl ?_
              refine g_icmp_eq 117 rfl rfl (fun c_28 => ?_) (fun c_28 => ?_)
              · skip
                rw [i_eq, t_10] at c_28
                refine g_iload_n (i := 2) rfl rfl ?_
                have hk : k.toInt = 0 ∨ k.toInt = 1 ∨ k.toInt = 2 ∨ k.toInt = 3 ∨ k.toInt = 4 ∨ k.toInt = 5 ∨ k.toInt = 6 := by omega
                have hi : isoK (C / 1000) k.toInt := by unfold isoK; omega
                have hab := dg_le (show C / 100 % 10 < 10 by omega) (show C / 10 % 10 < 10 by omega)
                rcases hk with hs2 | hs2 | hs2 | hs2 | hs2 | hs2 | hs2
                · skip
                  refine g_tsIn 0 156 rfl (by omega) (by rw [hs2]; rfl) rfl rfl ?_
                  refine g_aload_n (i := 0) rfl rfl ?_
                  refine g_aload_n (i := 0) rfl rfl ?_
                  refine g_iload_n (i := 3) rfl rfl ?_
                  refine g_iconst (n := 0) rfl ?_
                  refine g_virt2 (Qc := fun r h' => h' = h ∧ r = some (.long (sdS W (W * H) C 0))) rfl (by decide) rfl hr rfl (Nat.le_of_ble_eq_true rfl) (sd0 ((Int32.ofInt 0))) (fun r h hq9 => ?_)
                  obtain ⟨rfl, rfl⟩ := hq9
                  refine g_virt1 (Qc := fun r h' => h' = h ∧ r = some (.int (Int32.ofNat (cnt (sdS W (W * H) C 0))))) rfl (by decide) rfl hr rfl (Nat.le_of_ble_eq_true rfl) (s_manyE (by omega)) (fun r h hq9 => ?_)
                  obtain ⟨rfl, rfl⟩ := hq9
                  refine g_ireturn (ty := .int) rfl rfl rfl ?_
                  exact Or.inr ⟨by omega, Or.inr (Or.inr ⟨h2, Or.inr ⟨hi, by unfold tlS; rw [if_neg (by omega), if_neg (by omega), if_neg (by omega), if_neg (by omega), if_neg (by omega)]⟩⟩)⟩
                · skip
                  refine g_tsIn 1 167 rfl (by omega) (by rw [hs2]; rfl) rfl rfl ?_
                  refine g_aload_n (i := 0) rfl rfl ?_
                  refine g_aload_n (i := 0) rfl rfl ?_
                  refine g_iload_n (i := 3) rfl rfl ?_
                  refine g_iconst (n := 1) rfl ?_
                  refine g_virt2 (Qc := fun r h' => h' = h ∧ r = some (.long (sdS W (W * H) C 1))) rfl (by decide) rfl hr rfl (Nat.le_of_ble_eq_true rfl) (sd0 ((Int32.ofInt 1))) (fun r h hq9 => ?_)
                  obtain ⟨rfl, rfl⟩ := hq9
                  refine g_virt1 (Qc := fun r h' => h' = h ∧ r = some (.int (Int32.ofNat (cnt (sdS W (W * H) C 1))))) rfl (by decide) rfl hr rfl (Nat.le_of_ble_eq_true rfl) (s_manyE (by omega)) (fun r h hq9 => ?_)
                  obtain ⟨rfl, rfl⟩ := hq9
                  refine g_ireturn (ty := .int) rfl rfl rfl ?_
                  exact Or.inr ⟨by omega, Or.inr (Or.inr ⟨h2, Or.inr ⟨hi, by unfold tlS; rw [if_pos hs2]⟩⟩)⟩
                · skip
                  refine g_tsIn 2 213 rfl (by omega) (by rw [hs2]; rfl) rfl rfl ?_
                  refine g_iload_n (i := 3) rfl rfl ?_
                  refine g_bipush (n := 10) rfl ?_
                  have k_29 : ((Int8.ofInt 10).toInt32).toInt = 10 := rfl
                  refine g_idiv rfl (by decide) ?_
                  have t_30 : (((co S) / (Int8.ofInt 10).toInt32)).toInt = ((C / 10 : Nat) : Int) := n_div (X := C) (Y := 10) hC (show _ = ((10 : Nat) : Int) from k_29) (by omega)
                  refine g_bipush (n := 10) rfl ?_
                  refine g_irem rfl (by decide) ?_
                  have t_31 : ((((co S) / (Int8.ofInt 10).toInt32) - ((co S) / (Int8.ofInt 10).toInt32) / (Int8.ofInt 10).toInt32 * (Int8.ofInt 10).toInt32)).toInt = (((C / 10) % 10 : Nat) : Int) := n_rem (X := C / 10) (Y := 10) t_30 (show _ = ((10 : Nat) : Int) from k_29) (by omega)
                  refine g_ireturn (ty := .int) rfl rfl rfl ?_
                  have hb1 := n_rem (n_div hC (show (Int8.ofInt 10).toInt32.toInt = ((10 : Nat) : Int) from rfl) (by decide)) (show (Int8.ofInt 10).toInt32.toInt = ((10 : Nat) : Int) from rfl) (by decide)
                  have ha1 := n_rem (n_div hC (show (Int8.ofInt 100).toInt32.toInt = ((100 : Nat) : Int) from rfl) (by decide)) (show (Int8.ofInt 10).toInt32.toInt = ((10 : Nat) : Int) from rfl) (by decide)
                  exact Or.inr ⟨by omega, Or.inr (Or.inr ⟨h2, Or.inr ⟨hi, by unfold tlS; rw [if_neg (by omega), if_pos (Or.inl hs2)]; exact congrArg (fun z => some (Value.int z)) (of_n hb1 (by omega))⟩⟩)⟩
                · skip
                  refine g_tsIn 3 178 rfl (by omega) (by rw [hs2]; rfl) rfl rfl ?_
                  refine g_aload_n (i := 0) rfl rfl ?_
                  refine g_aload_n (i := 0) rfl rfl ?_
                  refine g_iload_n (i := 3) rfl rfl ?_
                  refine g_iconst (n := 2) rfl ?_
                  refine g_virt2 (Qc := fun r h' => h' = h ∧ r = some (.long (sdS W (W * H) C 2))) rfl (by decide) rfl hr rfl (Nat.le_of_ble_eq_true rfl) (sd0 ((Int32.ofInt 2))) (fun r h hq9 => ?_)
                  obtain ⟨rfl, rfl⟩ := hq9
                  refine g_virt1 (Qc := fun r h' => h' = h ∧ r = some (.int (Int32.ofNat (cnt (sdS W (W * H) C 2))))) rfl (by decide) rfl hr rfl (Nat.le_of_ble_eq_true rfl) (s_manyE (by omega)) (fun r h hq9 => ?_)
                  obtain ⟨rfl, rfl⟩ := hq9
                  refine g_ireturn (ty := .int) rfl rfl rfl ?_
                  exact Or.inr ⟨by omega, Or.inr (Or.inr ⟨h2, Or.inr ⟨hi, by unfold tlS; rw [if_neg (by omega), if_neg (by omega), if_pos hs2]⟩⟩)⟩
                · skip
                  refine g_tsIn 4 189 rfl (by omega) (by rw [hs2]; rfl) rfl rfl ?_
                  refine g_iload_n (i := 3) rfl rfl ?_
                  refine g_bipush (n := 100) rfl ?_
                  have k_32 : ((Int8.ofInt 100).toInt32).toInt = 100 := rfl
                  refine g_idiv rfl (by decide) ?_
                  have t_33 : (((co S) / (Int8.ofInt 100).toInt32)).toInt = ((C / 100 : Nat) : Int) := n_div (X := C) (Y := 100) hC (show _ = ((100 : Nat) : Int) from k_32) (by omega)
                  refine g_bipush (n := 10) rfl ?_
                  have k_34 : ((Int8.ofInt 10).toInt32).toInt = 10 := rfl
                  refine g_irem rfl (by decide) ?_
                  have t_35 : ((((co S) / (Int8.ofInt 100).toInt32) - ((co S) / (Int8.ofInt 100).toInt32) / (Int8.ofInt 10).toInt32 * (Int8.ofInt 10).toInt32)).toInt = (((C / 100) % 10 : Nat) : Int) := n_rem (X := C / 100) (Y := 10) t_33 (show _ = ((10 : Nat) : Int) from k_34) (by omega)
                  refine g_ireturn (ty := .int) rfl rfl rfl ?_
                  have hb1 := n_rem (n_div hC (show (Int8.ofInt 10).toInt32.toInt = ((10 : Nat) : Int) from rfl) (by decide)) (show (Int8.ofInt 10).toInt32.toInt = ((10 : Nat) : Int) from rfl) (by decide)
                  have ha1 := n_rem (n_div hC (show (Int8.ofInt 100).toInt32.toInt = ((100 : Nat) : Int) from rfl) (by decide)) (show (Int8.ofInt 10).toInt32.toInt = ((10 : Nat) : Int) from rfl) (by decide)
                  exact Or.inr ⟨by omega, Or.inr (Or.inr ⟨h2, Or.inr ⟨hi, by unfold tlS; rw [if_neg (by omega), if_neg (by omega), if_neg (by omega), if_pos hs2]; exact congrArg (fun z => some (Value.int z)) (of_n ha1 (by omega))⟩⟩)⟩
                · skip
                  refine g_tsIn 5 197 rfl (by omega) (by rw [hs2]; rfl) rfl rfl ?_
                  refine g_iload_n (i := 3) rfl rfl ?_
                  refine g_bipush (n := 100) rfl ?_
                  have k_36 : ((Int8.ofInt 100).toInt32).toInt = 100 := rfl
                  refine g_idiv rfl (by decide) ?_
                  have t_37 : (((co S) / (Int8.ofInt 100).toInt32)).toInt = ((C / 100 : Nat) : Int) := n_div (X := C) (Y := 100) hC (show _ = ((100 : Nat) : Int) from k_36) (by omega)
                  refine g_bipush (n := 10) rfl ?_
                  have k_38 : ((Int8.ofInt 10).toInt32).toInt = 10 := rfl
                  refine g_irem rfl (by decide) ?_
                  have t_39 : ((((co S) / (Int8.ofInt 100).toInt32) - ((co S) / (Int8.ofInt 100).toInt32) / (Int8.ofInt 10).toInt32 * (Int8.ofInt 10).toInt32)).toInt = (((C / 100) % 10 : Nat) : Int) := n_rem (X := C / 100) (Y := 10) t_37 (show _ = ((10 : Nat) : Int) from k_38) (by omega)
                  refine g_iload_n (i := 3) rfl rfl ?_
                  refine g_bipush (n := 10) rfl ?_
                  refine g_idiv rfl (by decide) ?_
                  have t_40 : (((co S) / (Int8.ofInt 10).toInt32)).toInt = ((C / 10 : Nat) : Int) := n_div (X := C) (Y := 10) hC (show _ = ((10 : Nat) : Int) from k_38) (by omega)
                  refine g_bipush (n := 10) rfl ?_
                  refine g_irem rfl (by decide) ?_
                  have t_41 : ((((co S) / (Int8.ofInt 10).toInt32) - ((co S) / (Int8.ofInt 10).toInt32) / (Int8.ofInt 10).toInt32 * (Int8.ofInt 10).toInt32)).toInt = (((C / 10) % 10 : Nat) : Int) := n_rem (X := C / 10) (Y := 10) t_40 (show _ = ((10 : Nat) : Int) from k_38) (by omega)
                  refine g_imul rfl ?_
                  refine g_ireturn (ty := .int) rfl rfl rfl ?_
                  have hb1 := n_rem (n_div hC (show (Int8.ofInt 10).toInt32.toInt = ((10 : Nat) : Int) from rfl) (by decide)) (show (Int8.ofInt 10).toInt32.toInt = ((10 : Nat) : Int) from rfl) (by decide)
                  have ha1 := n_rem (n_div hC (show (Int8.ofInt 100).toInt32.toInt = ((100 : Nat) : Int) from rfl) (by decide)) (show (Int8.ofInt 10).toInt32.toInt = ((10 : Nat) : Int) from rfl) (by decide)
                  exact Or.inr ⟨by omega, Or.inr (Or.inr ⟨h2, Or.inr ⟨hi, by unfold tlS; rw [if_neg (by omega), if_neg (by omega), if_neg (by omega), if_neg (by omega), if_pos hs2]; exact congrArg (fun z => some (Value.int z)) (of_n (n_mul ha1 hb1 (by omega)) (by omega))⟩⟩)⟩
                · skip
                  refine g_tsOut 213 rfl (by omega) rfl ?_
                  refine g_iload_n (i := 3) rfl rfl ?_
                  refine g_bipush (n := 10) rfl ?_
                  have k_42 : ((Int8.ofInt 10).toInt32).toInt = 10 := rfl
                  refine g_idiv rfl (by decide) ?_
                  have t_43 : (((co S) / (Int8.ofInt 10).toInt32)).toInt = ((C / 10 : Nat) : Int) := n_div (X := C) (Y := 10) hC (show _ = ((10 : Nat) : Int) from k_42) (by omega)
                  refine g_bipush (n := 10) rfl ?_
                  refine g_irem rfl (by decide) ?_
                  have t_44 : ((((co S) / (Int8.ofInt 10).toInt32) - ((co S) / (Int8.ofInt 10).toInt32) / (Int8.ofInt 10).toInt32 * (Int8.ofInt 10).toInt32)).toInt = (((C / 10) % 10 : Nat) : Int) := n_rem (X := C / 10) (Y := 10) t_43 (show _ = ((10 : Nat) : Int) from k_42) (by omega)
                  refine g_ireturn (ty := .int) rfl rfl rfl ?_
                  have hb1 := n_rem (n_div hC (show (Int8.ofInt 10).toInt32.toInt = ((10 : Nat) : Int) from rfl) (by decide)) (show (Int8.ofInt 10).toInt32.toInt = ((10 : Nat) : Int) from rfl) (by decide)
                  have ha1 := n_rem (n_div hC (show (Int8.ofInt 100).toInt32.toInt = ((100 : Nat) : Int) from rfl) (by decide)) (show (Int8.ofInt 10).toInt32.toInt = ((10 : Nat) : Int) from rfl) (by decide)
                  exact Or.inr ⟨by omega, Or.inr (Or.inr ⟨h2, Or.inr ⟨hi, by unfold tlS; rw [if_neg (by omega), if_pos (Or.inr hs2)]; exact congrArg (fun z => some (Value.int z)) (of_n hb1 (by omega))⟩⟩)⟩
              · skip
                rw [i_eq, t_10] at c_28
                refine g_iload_n (i := 2) rfl rfl ?_
                refine g_iconst (n := 1) rfl ?_
                refine g_icmp_ne 98 rfl rfl (fun c_45 => ?_) (fun c_45 => ?_)
                · skip
                  rw [i_eq, k_7] at c_45
                  refine g_iload_n (i := 2) rfl rfl ?_
                  refine g_iconst (n := 2) rfl ?_
                  have k_47 : (Int32.ofInt 2).toInt = 2 := rfl
                  refine g_icmp_ne 110 rfl rfl (fun c_46 => ?_) (fun c_46 => ?_)
                  · skip
                    rw [i_eq, k_47] at c_46
                    refine g_aload_n (i := 0) rfl rfl ?_
                    refine g_bipush (n := (-2)) rfl ?_
                    refine g_virt1 (Qc := fun r h' => r = some (.int (-2)) ∧ h' = h.set 61 (rFc (bump R 2))) rfl (by decide) rfl hr rfl (Nat.le_of_ble_eq_true rfl) (s_no2 (X := 2) (by omega) hr hR rfl (by decide)) (fun r h9 hq9 => ?_)
                    obtain ⟨rfl, rfl⟩ := hq9
                    refine g_ireturn (ty := .int) rfl rfl rfl ?_
                    exact Or.inr ⟨by omega, Or.inr (Or.inr ⟨h2, Or.inl ⟨by unfold isoK; omega, rfl⟩⟩)⟩
                  · skip
                    rw [i_eq, k_47] at c_46
                    refine g_iload (i := 4) rfl rfl ?_
                    refine g_bipush (n := 6) rfl ?_
                    refine g_icmp_eq 117 rfl rfl (fun c_48 => ?_) (fun c_48 => ?_)
                    · skip
                      rw [i_eq, t_10, k_5] at c_48
                      refine g_iload_n (i := 2) rfl rfl ?_
                      have hk : k.toInt = 0 ∨ k.toInt = 1 ∨ k.toInt = 2 ∨ k.toInt = 3 ∨ k.toInt = 4 ∨ k.toInt = 5 ∨ k.toInt = 6 := by omega
                      have hi : isoK (C / 1000) k.toInt := by unfold isoK; omega
                      have hab := dg_le (show C / 100 % 10 < 10 by omega) (show C / 10 % 10 < 10 by omega)
                      rcases hk with hs2 | hs2 | hs2 | hs2 | hs2 | hs2 | hs2
                      · skip
                        refine g_tsIn 0 156 rfl (by omega) (by rw [hs2]; rfl) rfl rfl ?_
                        refine g_aload_n (i := 0) rfl rfl ?_
                        refine g_aload_n (i := 0) rfl rfl ?_
                        refine g_iload_n (i := 3) rfl rfl ?_
                        refine g_iconst (n := 0) rfl ?_
                        refine g_virt2 (Qc := fun r h' => h' = h ∧ r = some (.long (sdS W (W * H) C 0))) rfl (by decide) rfl hr rfl (Nat.le_of_ble_eq_true rfl) (sd0 ((Int32.ofInt 0))) (fun r h hq9 => ?_)
                        obtain ⟨rfl, rfl⟩ := hq9
                        refine g_virt1 (Qc := fun r h' => h' = h ∧ r = some (.int (Int32.ofNat (cnt (sdS W (W * H) C 0))))) rfl (by decide) rfl hr rfl (Nat.le_of_ble_eq_true rfl) (s_manyE (by omega)) (fun r h hq9 => ?_)
                        obtain ⟨rfl, rfl⟩ := hq9
                        refine g_ireturn (ty := .int) rfl rfl rfl ?_
                        exact Or.inr ⟨by omega, Or.inr (Or.inr ⟨h2, Or.inr ⟨hi, by unfold tlS; rw [if_neg (by omega), if_neg (by omega), if_neg (by omega), if_neg (by omega), if_neg (by omega)]⟩⟩)⟩
                      · skip
                        refine g_tsIn 1 167 rfl (by omega) (by rw [hs2]; rfl) rfl rfl ?_
                        refine g_aload_n (i := 0) rfl rfl ?_
                        refine g_aload_n (i := 0) rfl rfl ?_
                        refine g_iload_n (i := 3) rfl rfl ?_
                        refine g_iconst (n := 1) rfl ?_
                        refine g_virt2 (Qc := fun r h' => h' = h ∧ r = some (.long (sdS W (W * H) C 1))) rfl (by decide) rfl hr rfl (Nat.le_of_ble_eq_true rfl) (sd0 ((Int32.ofInt 1))) (fun r h hq9 => ?_)
                        obtain ⟨rfl, rfl⟩ := hq9
                        refine g_virt1 (Qc := fun r h' => h' = h ∧ r = some (.int (Int32.ofNat (cnt (sdS W (W * H) C 1))))) rfl (by decide) rfl hr rfl (Nat.le_of_ble_eq_true rfl) (s_manyE (by omega)) (fun r h hq9 => ?_)
                        obtain ⟨rfl, rfl⟩ := hq9
                        refine g_ireturn (ty := .int) rfl rfl rfl ?_
                        exact Or.inr ⟨by omega, Or.inr (Or.inr ⟨h2, Or.inr ⟨hi, by unfold tlS; rw [if_pos hs2]⟩⟩)⟩
                      · skip
                        refine g_tsIn 2 213 rfl (by omega) (by rw [hs2]; rfl) rfl rfl ?_
                        refine g_iload_n (i := 3) rfl rfl ?_
                        refine g_bipush (n := 10) rfl ?_
                        have k_49 : ((Int8.ofInt 10).toInt32).toInt = 10 := rfl
                        refine g_idiv rfl (by decide) ?_
                        have t_50 : (((co S) / (Int8.ofInt 10).toInt32)).toInt = ((C / 10 : Nat) : Int) := n_div (X := C) (Y := 10) hC (show _ = ((10 : Nat) : Int) from k_49) (by omega)
                        refine g_bipush (n := 10) rfl ?_
                        refine g_irem rfl (by decide) ?_
                        have t_51 : ((((co S) / (Int8.ofInt 10).toInt32) - ((co S) / (Int8.ofInt 10).toInt32) / (Int8.ofInt 10).toInt32 * (Int8.ofInt 10).toInt32)).toInt = (((C / 10) % 10 : Nat) : Int) := n_rem (X := C / 10) (Y := 10) t_50 (show _ = ((10 : Nat) : Int) from k_49) (by omega)
                        refine g_ireturn (ty := .int) rfl rfl rfl ?_
                        have hb1 := n_rem (n_div hC (show (Int8.ofInt 10).toInt32.toInt = ((10 : Nat) : Int) from rfl) (by decide)) (show (Int8.ofInt 10).toInt32.toInt = ((10 : Nat) : Int) from rfl) (by decide)
                        have ha1 := n_rem (n_div hC (show (Int8.ofInt 100).toInt32.toInt = ((100 : Nat) : Int) from rfl) (by decide)) (show (Int8.ofInt 10).toInt32.toInt = ((10 : Nat) : Int) from rfl) (by decide)
                        exact Or.inr ⟨by omega, Or.inr (Or.inr ⟨h2, Or.inr ⟨hi, by unfold tlS; rw [if_neg (by omega), if_pos (Or.inl hs2)]; exact congrArg (fun z => some (Value.int z)) (of_n hb1 (by omega))⟩⟩)⟩
                      · skip
                        refine g_tsIn 3 178 rfl (by omega) (by rw [hs2]; rfl) rfl rfl ?_
                        refine g_aload_n (i := 0) rfl rfl ?_
                        refine g_aload_n (i := 0) rfl rfl ?_
                        refine g_iload_n (i := 3) rfl rfl ?_
                        refine g_iconst (n := 2) rfl ?_
                        refine g_virt2 (Qc := fun r h' => h' = h ∧ r = some (.long (sdS W (W * H) C 2))) rfl (by decide) rfl hr rfl (Nat.le_of_ble_eq_true rfl) (sd0 ((Int32.ofInt 2))) (fun r h hq9 => ?_)
                        obtain ⟨rfl, rfl⟩ := hq9
                        refine g_virt1 (Qc := fun r h' => h' = h ∧ r = some (.int (Int32.ofNat (cnt (sdS W (W * H) C 2))))) rfl (by decide) rfl hr rfl (Nat.le_of_ble_eq_true rfl) (s_manyE (by omega)) (fun r h hq9 => ?_)
                        obtain ⟨rfl, rfl⟩ := hq9
                        refine g_ireturn (ty := .int) rfl rfl rfl ?_
                        exact Or.inr ⟨by omega, Or.inr (Or.inr ⟨h2, Or.inr ⟨hi, by unfold tlS; rw [if_neg (by omega), if_neg (by omega), if_pos hs2]⟩⟩)⟩
                      · skip
                        refine g_tsIn 4 189 rfl (by omega) (by rw [hs2]; rfl) rfl rfl ?_
                        refine g_iload_n (i := 3) rfl rfl ?_
                        refine g_bipush (n := 100) rfl ?_
                        have k_52 : ((Int8.ofInt 100).toInt32).toInt = 100 := rfl
                        refine g_idiv rfl (by decide) ?_
                        have t_53 : (((co S) / (Int8.ofInt 100).toInt32)).toInt = ((C / 100 : Nat) : Int) := n_div (X := C) (Y := 100) hC (show _ = ((100 : Nat) : Int) from k_52) (by omega)
                        refine g_bipush (n := 10) rfl ?_
                        have k_54 : ((Int8.ofInt 10).toInt32).toInt = 10 := rfl
                        refine g_irem rfl (by decide) ?_
                        have t_55 : ((((co S) / (Int8.ofInt 100).toInt32) - ((co S) / (Int8.ofInt 100).toInt32) / (Int8.ofInt 10).toInt32 * (Int8.ofInt 10).toInt32)).toInt = (((C / 100) % 10 : Nat) : Int) := n_rem (X := C / 100) (Y := 10) t_53 (show _ = ((10 : Nat) : Int) from k_54) (by omega)
                        refine g_ireturn (ty := .int) rfl rfl rfl ?_
                        have hb1 := n_rem (n_div hC (show (Int8.ofInt 10).toInt32.toInt = ((10 : Nat) : Int) from rfl) (by decide)) (show (Int8.ofInt 10).toInt32.toInt = ((10 : Nat) : Int) from rfl) (by decide)
                        have ha1 := n_rem (n_div hC (show (Int8.ofInt 100).toInt32.toInt = ((100 : Nat) : Int) from rfl) (by decide)) (show (Int8.ofInt 10).toInt32.toInt = ((10 : Nat) : Int) from rfl) (by decide)
                        exact Or.inr ⟨by omega, Or.inr (Or.inr ⟨h2, Or.inr ⟨hi, by unfold tlS; rw [if_neg (by omega), if_neg (by omega), if_neg (by omega), if_pos hs2]; exact congrArg (fun z => some (Value.int z)) (of_n ha1 (by omega))⟩⟩)⟩
                      · skip
                        refine g_tsIn 5 197 rfl (by omega) (by rw [hs2]; rfl) rfl rfl ?_
                        refine g_iload_n (i := 3) rfl rfl ?_
                        refine g_bipush (n := 100) rfl ?_
                        have k_56 : ((Int8.ofInt 100).toInt32).toInt = 100 := rfl
                        refine g_idiv rfl (by decide) ?_
                        have t_57 : (((co S) / (Int8.ofInt 100).toInt32)).toInt = ((C / 100 : Nat) : Int) := n_div (X := C) (Y := 100) hC (show _ = ((100 : Nat) : Int) from k_56) (by omega)
                        refine g_bipush (n := 10) rfl ?_
                        have k_58 : ((Int8.ofInt 10).toInt32).toInt = 10 := rfl
                        refine g_irem rfl (by decide) ?_
                        have t_59 : ((((co S) / (Int8.ofInt 100).toInt32) - ((co S) / (Int8.ofInt 100).toInt32) / (Int8.ofInt 10).toInt32 * (Int8.ofInt 10).toInt32)).toInt = (((C / 100) % 10 : Nat) : Int) := n_rem (X := C / 100) (Y := 10) t_57 (show _ = ((10 : Nat) : Int) from k_58) (by omega)
                        refine g_iload_n (i := 3) rfl rfl ?_
                        refine g_bipush (n := 10) rfl ?_
                        refine g_idiv rfl (by decide) ?_
                        have t_60 : (((co S) / (Int8.ofInt 10).toInt32)).toInt = ((C / 10 : Nat) : Int) := n_div (X := C) (Y := 10) hC (show _ = ((10 : Nat) : Int) from k_58) (by omega)
                        refine g_bipush (n := 10) rfl ?_
                        refine g_irem rfl (by decide) ?_
                        have t_61 : ((((co S) / (Int8.ofInt 10).toInt32) - ((co S) / (Int8.ofInt 10).toInt32) / (Int8.ofInt 10).toInt32 * (Int8.ofInt 10).toInt32)).toInt = (((C / 10) % 10 : Nat) : Int) := n_rem (X := C / 10) (Y := 10) t_60 (show _ = ((10 : Nat) : Int) from k_58) (by omega)
                        refine g_imul rfl ?_
                        refine g_ireturn (ty := .int) rfl rfl rfl ?_
                        have hb1 := n_rem (n_div hC (show (Int8.ofInt 10).toInt32.toInt = ((10 : Nat) : Int) from rfl) (by decide)) (show (Int8.ofInt 10).toInt32.toInt = ((10 : Nat) : Int) from rfl) (by decide)
                        have ha1 := n_rem (n_div hC (show (Int8.ofInt 100).toInt32.toInt = ((100 : Nat) : Int) from rfl) (by decide)) (show (Int8.ofInt 10).toInt32.toInt = ((10 : Nat) : Int) from rfl) (by decide)
                        exact Or.inr ⟨by omega, Or.inr (Or.inr ⟨h2, Or.inr ⟨hi, by unfold tlS; rw [if_neg (by omega), if_neg (by omega), if_neg (by omega), if_neg (by omega), if_pos hs2]; exact congrArg (fun z => some (Value.int z)) (of_n (n_mul ha1 hb1 (by omega)) (by omega))⟩⟩)⟩
                      · skip
                        refine g_tsOut 213 rfl (by omega) rfl ?_
                        refine g_iload_n (i := 3) rfl rfl ?_
                        refine g_bipush (n := 10) rfl ?_
                        have k_62 : ((Int8.ofInt 10).toInt32).toInt = 10 := rfl
                        refine g_idiv rfl (by decide) ?_
                        have t_63 : (((co S) / (Int8.ofInt 10).toInt32)).toInt = ((C / 10 : Nat) : Int) := n_div (X := C) (Y := 10) hC (show _ = ((10 : Nat) : Int) from k_62) (by omega)
                        refine g_bipush (n := 10) rfl ?_
                        refine g_irem rfl (by decide) ?_
                        have t_64 : ((((co S) / (Int8.ofInt 10).toInt32) - ((co S) / (Int8.ofInt 10).toInt32) / (Int8.ofInt 10).toInt32 * (Int8.ofInt 10).toInt32)).toInt = (((C / 10) % 10 : Nat) : Int) := n_rem (X := C / 10) (Y := 10) t_63 (show _ = ((10 : Nat) : Int) from k_62) (by omega)
                        refine g_ireturn (ty := .int) rfl rfl rfl ?_
                        have hb1 := n_rem (n_div hC (show (Int8.ofInt 10).toInt32.toInt = ((10 : Nat) : Int) from rfl) (by decide)) (show (Int8.ofInt 10).toInt32.toInt = ((10 : Nat) : Int) from rfl) (by decide)
                        have ha1 := n_rem (n_div hC (show (Int8.ofInt 100).toInt32.toInt = ((100 : Nat) : Int) from rfl) (by decide)) (show (Int8.ofInt 10).toInt32.toInt = ((10 : Nat) : Int) from rfl) (by decide)
                        exact Or.inr ⟨by omega, Or.inr (Or.inr ⟨h2, Or.inr ⟨hi, by unfold tlS; rw [if_neg (by omega), if_pos (Or.inr hs2)]; exact congrArg (fun z => some (Value.int z)) (of_n hb1 (by omega))⟩⟩)⟩
                    · skip
                      rw [i_eq, t_10, k_5] at c_48
                      refine g_aload_n (i := 0) rfl rfl ?_
                      refine g_bipush (n := (-2)) rfl ?_
                      refine g_virt1 (Qc := fun r h' => r = some (.int (-2)) ∧ h' = h.set 61 (rFc (bump R 2))) rfl (by decide) rfl hr rfl (Nat.le_of_ble_eq_true rfl) (s_no2 (X := 2) (by omega) hr hR rfl (by decide)) (fun r h9 hq9 => ?_)
                      obtain ⟨rfl, rfl⟩ := hq9
                      refine g_ireturn (ty := .int) rfl rfl rfl ?_
                      exact Or.inr ⟨by omega, Or.inr (Or.inr ⟨h2, Or.inl ⟨by unfold isoK; omega, rfl⟩⟩)⟩
                · skip
                  rw [i_eq, k_7] at c_45
                  refine g_iload (i := 4) rfl rfl ?_
                  refine g_iconst (n := 4) rfl ?_
                  have k_66 : (Int32.ofInt 4).toInt = 4 := rfl
                  refine g_icmp_eq 117 rfl rfl (fun c_65 => ?_) (fun c_65 => ?_)
                  · skip
                    rw [i_eq, t_10, k_66] at c_65
                    refine g_iload_n (i := 2) rfl rfl ?_
                    have hk : k.toInt = 0 ∨ k.toInt = 1 ∨ k.toInt = 2 ∨ k.toInt = 3 ∨ k.toInt = 4 ∨ k.toInt = 5 ∨ k.toInt = 6 := by omega
                    have hi : isoK (C / 1000) k.toInt := by unfold isoK; omega
                    have hab := dg_le (show C / 100 % 10 < 10 by omega) (show C / 10 % 10 < 10 by omega)
                    rcases hk with hs2 | hs2 | hs2 | hs2 | hs2 | hs2 | hs2
                    · skip
                      refine g_tsIn 0 156 rfl (by omega) (by rw [hs2]; rfl) rfl rfl ?_
                      refine g_aload_n (i := 0) rfl rfl ?_
                      refine g_aload_n (i := 0) rfl rfl ?_
                      refine g_iload_n (i := 3) rfl rfl ?_
                      refine g_iconst (n := 0) rfl ?_
                      refine g_virt2 (Qc := fun r h' => h' = h ∧ r = some (.long (sdS W (W * H) C 0))) rfl (by decide) rfl hr rfl (Nat.le_of_ble_eq_true rfl) (sd0 ((Int32.ofInt 0))) (fun r h hq9 => ?_)
                      obtain ⟨rfl, rfl⟩ := hq9
                      refine g_virt1 (Qc := fun r h' => h' = h ∧ r = some (.int (Int32.ofNat (cnt (sdS W (W * H) C 0))))) rfl (by decide) rfl hr rfl (Nat.le_of_ble_eq_true rfl) (s_manyE (by omega)) (fun r h hq9 => ?_)
                      obtain ⟨rfl, rfl⟩ := hq9
                      refine g_ireturn (ty := .int) rfl rfl rfl ?_
                      exact Or.inr ⟨by omega, Or.inr (Or.inr ⟨h2, Or.inr ⟨hi, by unfold tlS; rw [if_neg (by omega), if_neg (by omega), if_neg (by omega), if_neg (by omega), if_neg (by omega)]⟩⟩)⟩
                    · skip
                      refine g_tsIn 1 167 rfl (by omega) (by rw [hs2]; rfl) rfl rfl ?_
                      refine g_aload_n (i := 0) rfl rfl ?_
                      refine g_aload_n (i := 0) rfl rfl ?_
                      refine g_iload_n (i := 3) rfl rfl ?_
                      refine g_iconst (n := 1) rfl ?_
                      refine g_virt2 (Qc := fun r h' => h' = h ∧ r = some (.long (sdS W (W * H) C 1))) rfl (by decide) rfl hr rfl (Nat.le_of_ble_eq_true rfl) (sd0 ((Int32.ofInt 1))) (fun r h hq9 => ?_)
                      obtain ⟨rfl, rfl⟩ := hq9
                      refine g_virt1 (Qc := fun r h' => h' = h ∧ r = some (.int (Int32.ofNat (cnt (sdS W (W * H) C 1))))) rfl (by decide) rfl hr rfl (Nat.le_of_ble_eq_true rfl) (s_manyE (by omega)) (fun r h hq9 => ?_)
                      obtain ⟨rfl, rfl⟩ := hq9
                      refine g_ireturn (ty := .int) rfl rfl rfl ?_
                      exact Or.inr ⟨by omega, Or.inr (Or.inr ⟨h2, Or.inr ⟨hi, by unfold tlS; rw [if_pos hs2]⟩⟩)⟩
                    · skip
                      refine g_tsIn 2 213 rfl (by omega) (by rw [hs2]; rfl) rfl rfl ?_
                      refine g_iload_n (i := 3) rfl rfl ?_
                      refine g_bipush (n := 10) rfl ?_
                      have k_67 : ((Int8.ofInt 10).toInt32).toInt = 10 := rfl
                      refine g_idiv rfl (by decide) ?_
                      have t_68 : (((co S) / (Int8.ofInt 10).toInt32)).toInt = ((C / 10 : Nat) : Int) := n_div (X := C) (Y := 10) hC (show _ = ((10 : Nat) : Int) from k_67) (by omega)
                      refine g_bipush (n := 10) rfl ?_
                      refine g_irem rfl (by decide) ?_
                      have t_69 : ((((co S) / (Int8.ofInt 10).toInt32) - ((co S) / (Int8.ofInt 10).toInt32) / (Int8.ofInt 10).toInt32 * (Int8.ofInt 10).toInt32)).toInt = (((C / 10) % 10 : Nat) : Int) := n_rem (X := C / 10) (Y := 10) t_68 (show _ = ((10 : Nat) : Int) from k_67) (by omega)
                      refine g_ireturn (ty := .int) rfl rfl rfl ?_
                      have hb1 := n_rem (n_div hC (show (Int8.ofInt 10).toInt32.toInt = ((10 : Nat) : Int) from rfl) (by decide)) (show (Int8.ofInt 10).toInt32.toInt = ((10 : Nat) : Int) from rfl) (by decide)
                      have ha1 := n_rem (n_div hC (show (Int8.ofInt 100).toInt32.toInt = ((100 : Nat) : Int) from rfl) (by decide)) (show (Int8.ofInt 10).toInt32.toInt = ((10 : Nat) : Int) from rfl) (by decide)
                      exact Or.inr ⟨by omega, Or.inr (Or.inr ⟨h2, Or.inr ⟨hi, by unfold tlS; rw [if_neg (by omega), if_pos (Or.inl hs2)]; exact congrArg (fun z => some (Value.int z)) (of_n hb1 (by omega))⟩⟩)⟩
                    · skip
                      refine g_tsIn 3 178 rfl (by omega) (by rw [hs2]; rfl) rfl rfl ?_
                      refine g_aload_n (i := 0) rfl rfl ?_
                      refine g_aload_n (i := 0) rfl rfl ?_
                      refine g_iload_n (i := 3) rfl rfl ?_
                      refine g_iconst (n := 2) rfl ?_
                      refine g_virt2 (Qc := fun r h' => h' = h ∧ r = some (.long (sdS W (W * H) C 2))) rfl (by decide) rfl hr rfl (Nat.le_of_ble_eq_true rfl) (sd0 ((Int32.ofInt 2))) (fun r h hq9 => ?_)
                      obtain ⟨rfl, rfl⟩ := hq9
                      refine g_virt1 (Qc := fun r h' => h' = h ∧ r = some (.int (Int32.ofNat (cnt (sdS W (W * H) C 2))))) rfl (by decide) rfl hr rfl (Nat.le_of_ble_eq_true rfl) (s_manyE (by omega)) (fun r h hq9 => ?_)
                      obtain ⟨rfl, rfl⟩ := hq9
                      refine g_ireturn (ty := .int) rfl rfl rfl ?_
                      exact Or.inr ⟨by omega, Or.inr (Or.inr ⟨h2, Or.inr ⟨hi, by unfold tlS; rw [if_neg (by omega), if_neg (by omega), if_pos hs2]⟩⟩)⟩
                    · skip
                      refine g_tsIn 4 189 rfl (by omega) (by rw [hs2]; rfl) rfl rfl ?_
                      refine g_iload_n (i := 3) rfl rfl ?_
                      refine g_bipush (n := 100) rfl ?_
                      have k_70 : ((Int8.ofInt 100).toInt32).toInt = 100 := rfl
                      refine g_idiv rfl (by decide) ?_
                      have t_71 : (((co S) / (Int8.ofInt 100).toInt32)).toInt = ((C / 100 : Nat) : Int) := n_div (X := C) (Y := 100) hC (show _ = ((100 : Nat) : Int) from k_70) (by omega)
                      refine g_bipush (n := 10) rfl ?_
                      have k_72 : ((Int8.ofInt 10).toInt32).toInt = 10 := rfl
                      refine g_irem rfl (by decide) ?_
                      have t_73 : ((((co S) / (Int8.ofInt 100).toInt32) - ((co S) / (Int8.ofInt 100).toInt32) / (Int8.ofInt 10).toInt32 * (Int8.ofInt 10).toInt32)).toInt = (((C / 100) % 10 : Nat) : Int) := n_rem (X := C / 100) (Y := 10) t_71 (show _ = ((10 : Nat) : Int) from k_72) (by omega)
                      refine g_ireturn (ty := .int) rfl rfl rfl ?_
                      have hb1 := n_rem (n_div hC (show (Int8.ofInt 10).toInt32.toInt = ((10 : Nat) : Int) from rfl) (by decide)) (show (Int8.ofInt 10).toInt32.toInt = ((10 : Nat) : Int) from rfl) (by decide)
                      have ha1 := n_rem (n_div hC (show (Int8.ofInt 100).toInt32.toInt = ((100 : Nat) : Int) from rfl) (by decide)) (show (Int8.ofInt 10).toInt32.toInt = ((10 : Nat) : Int) from rfl) (by decide)
                      exact Or.inr ⟨by omega, Or.inr (Or.inr ⟨h2, Or.inr ⟨hi, by unfold tlS; rw [if_neg (by omega), if_neg (by omega), if_neg (by omega), if_pos hs2]; exact congrArg (fun z => some (Value.int z)) (of_n ha1 (by omega))⟩⟩)⟩
                    · skip
                      refine g_tsIn 5 197 rfl (by omega) (by rw [hs2]; rfl) rfl rfl ?_
                      refine g_iload_n (i := 3) rfl rfl ?_
                      refine g_bipush (n := 100) rfl ?_
                      have k_74 : ((Int8.ofInt 100).toInt32).toInt = 100 := rfl
                      refine g_idiv rfl (by decide) ?_
                      have t_75 : (((co S) / (Int8.ofInt 100).toInt32)).toInt = ((C / 100 : Nat) : Int) := n_div (X := C) (Y := 100) hC (show _ = ((100 : Nat) : Int) from k_74) (by omega)
                      refine g_bipush (n := 10) rfl ?_
                      have k_76 : ((Int8.ofInt 10).toInt32).toInt = 10 := rfl
                      refine g_irem rfl (by decide) ?_
                      have t_77 : ((((co S) / (Int8.ofInt 100).toInt32) - ((co S) / (Int8.ofInt 100).toInt32) / (Int8.ofInt 10).toInt32 * (Int8.ofInt 10).toInt32)).toInt = (((C / 100) % 10 : Nat) : Int) := n_rem (X := C / 100) (Y := 10) t_75 (show _ = ((10 : Nat) : Int) from k_76) (by omega)
                      refine g_iload_n (i := 3) rfl rfl ?_
                      refine g_bipush (n := 10) rfl ?_
                      refine g_idiv rfl (by decide) ?_
                      have t_78 : (((co S) / (Int8.ofInt 10).toInt32)).toInt = ((C / 10 : Nat) : Int) := n_div (X := C) (Y := 10) hC (show _ = ((10 : Nat) : Int) from k_76) (by omega)
                      refine g_bipush (n := 10) rfl ?_
                      refine g_irem rfl (by decide) ?_
                      have t_79 : ((((co S) / (Int8.ofInt 10).toInt32) - ((co S) / (Int8.ofInt 10).toInt32) / (Int8.ofInt 10).toInt32 * (Int8.ofInt 10).toInt32)).toInt = (((C / 10) % 10 : Nat) : Int) := n_rem (X := C / 10) (Y := 10) t_78 (show _ = ((10 : Nat) : Int) from k_76) (by omega)
                      refine g_imul rfl ?_
                      refine g_ireturn (ty := .int) rfl rfl rfl ?_
                      have hb1 := n_rem (n_div hC (show (Int8.ofInt 10).toInt32.toInt = ((10 : Nat) : Int) from rfl) (by decide)) (show (Int8.ofInt 10).toInt32.toInt = ((10 : Nat) : Int) from rfl) (by decide)
                      have ha1 := n_rem (n_div hC (show (Int8.ofInt 100).toInt32.toInt = ((100 : Nat) : Int) from rfl) (by decide)) (show (Int8.ofInt 10).toInt32.toInt = ((10 : Nat) : Int) from rfl) (by decide)
                      exact Or.inr ⟨by omega, Or.inr (Or.inr ⟨h2, Or.inr ⟨hi, by unfold tlS; rw [if_neg (by omega), if_neg (by omega), if_neg (by omega), if_neg (by omega), if_pos hs2]; exact congrArg (fun z => some (Value.int z)) (of_n (n_mul ha1 hb1 (by omega)) (by omega))⟩⟩)⟩
                    · skip
                      refine g_tsOut 213 rfl (by omega) rfl ?_
                      refine g_iload_n (i := 3) rfl rfl ?_
                      refine g_bipush (n := 10) rfl ?_
                      have k_80 : ((Int8.ofInt 10).toInt32).toInt = 10 := rfl
                      refine g_idiv rfl (by decide) ?_
                      have t_81 : (((co S) / (Int8.ofInt 10).toInt32)).toInt = ((C / 10 : Nat) : Int) := n_div (X := C) (Y := 10) hC (show _ = ((10 : Nat) : Int) from k_80) (by omega)
                      refine g_bipush (n := 10) rfl ?_
                      refine g_irem rfl (by decide) ?_
                      have t_82 : ((((co S) / (Int8.ofInt 10).toInt32) - ((co S) / (Int8.ofInt 10).toInt32) / (Int8.ofInt 10).toInt32 * (Int8.ofInt 10).toInt32)).toInt = (((C / 10) % 10 : Nat) : Int) := n_rem (X := C / 10) (Y := 10) t_81 (show _ = ((10 : Nat) : Int) from k_80) (by omega)
                      refine g_ireturn (ty := .int) rfl rfl rfl ?_
                      have hb1 := n_rem (n_div hC (show (Int8.ofInt 10).toInt32.toInt = ((10 : Nat) : Int) from rfl) (by decide)) (show (Int8.ofInt 10).toInt32.toInt = ((10 : Nat) : Int) from rfl) (by decide)
                      have ha1 := n_rem (n_div hC (show (Int8.ofInt 100).toInt32.toInt = ((100 : Nat) : Int) from rfl) (by decide)) (show (Int8.ofInt 10).toInt32.toInt = ((10 : Nat) : Int) from rfl) (by decide)
                      exact Or.inr ⟨by omega, Or.inr (Or.inr ⟨h2, Or.inr ⟨hi, by unfold tlS; rw [if_neg (by omega), if_pos (Or.inr hs2)]; exact congrArg (fun z => some (Value.int z)) (of_n hb1 (by omega))⟩⟩)⟩
                  · skip
                    rw [i_eq, t_10, k_66] at c_65
                    refine g_iload (i := 4) rfl rfl ?_
                    refine g_iconst (n := 5) rfl ?_
                    have k_84 : (Int32.ofInt 5).toInt = 5 := rfl
                    refine g_icmp_eq 117 rfl rfl (fun c_83 => ?_) (fun c_83 => ?_)
                    · skip
                      rw [i_eq, t_10, k_84] at c_83
                      refine g_iload_n (i := 2) rfl rfl ?_
                      have hk : k.toInt = 0 ∨ k.toInt = 1 ∨ k.toInt = 2 ∨ k.toInt = 3 ∨ k.toInt = 4 ∨ k.toInt = 5 ∨ k.toInt = 6 := by omega
                      have hi : isoK (C / 1000) k.toInt := by unfold isoK; omega
                      have hab := dg_le (show C / 100 % 10 < 10 by omega) (show C / 10 % 10 < 10 by omega)
                      rcases hk with hs2 | hs2 | hs2 | hs2 | hs2 | hs2 | hs2
                      · skip
                        refine g_tsIn 0 156 rfl (by omega) (by rw [hs2]; rfl) rfl rfl ?_
                        refine g_aload_n (i := 0) rfl rfl ?_
                        refine g_aload_n (i := 0) rfl rfl ?_
                        refine g_iload_n (i := 3) rfl rfl ?_
                        refine g_iconst (n := 0) rfl ?_
                        refine g_virt2 (Qc := fun r h' => h' = h ∧ r = some (.long (sdS W (W * H) C 0))) rfl (by decide) rfl hr rfl (Nat.le_of_ble_eq_true rfl) (sd0 ((Int32.ofInt 0))) (fun r h hq9 => ?_)
                        obtain ⟨rfl, rfl⟩ := hq9
                        refine g_virt1 (Qc := fun r h' => h' = h ∧ r = some (.int (Int32.ofNat (cnt (sdS W (W * H) C 0))))) rfl (by decide) rfl hr rfl (Nat.le_of_ble_eq_true rfl) (s_manyE (by omega)) (fun r h hq9 => ?_)
                        obtain ⟨rfl, rfl⟩ := hq9
                        refine g_ireturn (ty := .int) rfl rfl rfl ?_
                        exact Or.inr ⟨by omega, Or.inr (Or.inr ⟨h2, Or.inr ⟨hi, by unfold tlS; rw [if_neg (by omega), if_neg (by omega), if_neg (by omega), if_neg (by omega), if_neg (by omega)]⟩⟩)⟩
                      · skip
                        refine g_tsIn 1 167 rfl (by omega) (by rw [hs2]; rfl) rfl rfl ?_
                        refine g_aload_n (i := 0) rfl rfl ?_
                        refine g_aload_n (i := 0) rfl rfl ?_
                        refine g_iload_n (i := 3) rfl rfl ?_
                        refine g_iconst (n := 1) rfl ?_
                        refine g_virt2 (Qc := fun r h' => h' = h ∧ r = some (.long (sdS W (W * H) C 1))) rfl (by decide) rfl hr rfl (Nat.le_of_ble_eq_true rfl) (sd0 ((Int32.ofInt 1))) (fun r h hq9 => ?_)
                        obtain ⟨rfl, rfl⟩ := hq9
                        refine g_virt1 (Qc := fun r h' => h' = h ∧ r = some (.int (Int32.ofNat (cnt (sdS W (W * H) C 1))))) rfl (by decide) rfl hr rfl (Nat.le_of_ble_eq_true rfl) (s_manyE (by omega)) (fun r h hq9 => ?_)
                        obtain ⟨rfl, rfl⟩ := hq9
                        refine g_ireturn (ty := .int) rfl rfl rfl ?_
                        exact Or.inr ⟨by omega, Or.inr (Or.inr ⟨h2, Or.inr ⟨hi, by unfold tlS; rw [if_pos hs2]⟩⟩)⟩
                      · skip
                        refine g_tsIn 2 213 rfl (by omega) (by rw [hs2]; rfl) rfl rfl ?_
                        refine g_iload_n (i := 3) rfl rfl ?_
                        refine g_bipush (n := 10) rfl ?_
                        have k_85 : ((Int8.ofInt 10).toInt32).toInt = 10 := rfl
                        refine g_idiv rfl (by decide) ?_
                        have t_86 : (((co S) / (Int8.ofInt 10).toInt32)).toInt = ((C / 10 : Nat) : Int) := n_div (X := C) (Y := 10) hC (show _ = ((10 : Nat) : Int) from k_85) (by omega)
                        refine g_bipush (n := 10) rfl ?_
                        refine g_irem rfl (by decide) ?_
                        have t_87 : ((((co S) / (Int8.ofInt 10).toInt32) - ((co S) / (Int8.ofInt 10).toInt32) / (Int8.ofInt 10).toInt32 * (Int8.ofInt 10).toInt32)).toInt = (((C / 10) % 10 : Nat) : Int) := n_rem (X := C / 10) (Y := 10) t_86 (show _ = ((10 : Nat) : Int) from k_85) (by omega)
                        refine g_ireturn (ty := .int) rfl rfl rfl ?_
                        have hb1 := n_rem (n_div hC (show (Int8.ofInt 10).toInt32.toInt = ((10 : Nat) : Int) from rfl) (by decide)) (show (Int8.ofInt 10).toInt32.toInt = ((10 : Nat) : Int) from rfl) (by decide)
                        have ha1 := n_rem (n_div hC (show (Int8.ofInt 100).toInt32.toInt = ((100 : Nat) : Int) from rfl) (by decide)) (show (Int8.ofInt 10).toInt32.toInt = ((10 : Nat) : Int) from rfl) (by decide)
                        exact Or.inr ⟨by omega, Or.inr (Or.inr ⟨h2, Or.inr ⟨hi, by unfold tlS; rw [if_neg (by omega), if_pos (Or.inl hs2)]; exact congrArg (fun z => some (Value.int z)) (of_n hb1 (by omega))⟩⟩)⟩
                      · skip
                        refine g_tsIn 3 178 rfl (by omega) (by rw [hs2]; rfl) rfl rfl ?_
                        refine g_aload_n (i := 0) rfl rfl ?_
                        refine g_aload_n (i := 0) rfl rfl ?_
                        refine g_iload_n (i := 3) rfl rfl ?_
                        refine g_iconst (n := 2) rfl ?_
                        refine g_virt2 (Qc := fun r h' => h' = h ∧ r = some (.long (sdS W (W * H) C 2))) rfl (by decide) rfl hr rfl (Nat.le_of_ble_eq_true rfl) (sd0 ((Int32.ofInt 2))) (fun r h hq9 => ?_)
                        obtain ⟨rfl, rfl⟩ := hq9
                        refine g_virt1 (Qc := fun r h' => h' = h ∧ r = some (.int (Int32.ofNat (cnt (sdS W (W * H) C 2))))) rfl (by decide) rfl hr rfl (Nat.le_of_ble_eq_true rfl) (s_manyE (by omega)) (fun r h hq9 => ?_)
                        obtain ⟨rfl, rfl⟩ := hq9
                        refine g_ireturn (ty := .int) rfl rfl rfl ?_
                        exact Or.inr ⟨by omega, Or.inr (Or.inr ⟨h2, Or.inr ⟨hi, by unfold tlS; rw [if_neg (by omega), if_neg (by omega), if_pos hs2]⟩⟩)⟩
                      · skip
                        refine g_tsIn 4 189 rfl (by omega) (by rw [hs2]; rfl) rfl rfl ?_
                        refine g_iload_n (i := 3) rfl rfl ?_
                        refine g_bipush (n := 100) rfl ?_
                        have k_88 : ((Int8.ofInt 100).toInt32).toInt = 100 := rfl
                        refine g_idiv rfl (by decide) ?_
                        have t_89 : (((co S) / (Int8.ofInt 100).toInt32)).toInt = ((C / 100 : Nat) : Int) := n_div (X := C) (Y := 100) hC (show _ = ((100 : Nat) : Int) from k_88) (by omega)
                        refine g_bipush (n := 10) rfl ?_
                        have k_90 : ((Int8.ofInt 10).toInt32).toInt = 10 := rfl
                        refine g_irem rfl (by decide) ?_
                        have t_91 : ((((co S) / (Int8.ofInt 100).toInt32) - ((co S) / (Int8.ofInt 100).toInt32) / (Int8.ofInt 10).toInt32 * (Int8.ofInt 10).toInt32)).toInt = (((C / 100) % 10 : Nat) : Int) := n_rem (X := C / 100) (Y := 10) t_89 (show _ = ((10 : Nat) : Int) from k_90) (by omega)
                        refine g_ireturn (ty := .int) rfl rfl rfl ?_
                        have hb1 := n_rem (n_div hC (show (Int8.ofInt 10).toInt32.toInt = ((10 : Nat) : Int) from rfl) (by decide)) (show (Int8.ofInt 10).toInt32.toInt = ((10 : Nat) : Int) from rfl) (by decide)
                        have ha1 := n_rem (n_div hC (show (Int8.ofInt 100).toInt32.toInt = ((100 : Nat) : Int) from rfl) (by decide)) (show (Int8.ofInt 10).toInt32.toInt = ((10 : Nat) : Int) from rfl) (by decide)
                        exact Or.inr ⟨by omega, Or.inr (Or.inr ⟨h2, Or.inr ⟨hi, by unfold tlS; rw [if_neg (by omega), if_neg (by omega), if_neg (by omega), if_pos hs2]; exact congrArg (fun z => some (Value.int z)) (of_n ha1 (by omega))⟩⟩)⟩
                      · skip
                        refine g_tsIn 5 197 rfl (by omega) (by rw [hs2]; rfl) rfl rfl ?_
                        refine g_iload_n (i := 3) rfl rfl ?_
                        refine g_bipush (n := 100) rfl ?_
                        have k_92 : ((Int8.ofInt 100).toInt32).toInt = 100 := rfl
                        refine g_idiv rfl (by decide) ?_
                        have t_93 : (((co S) / (Int8.ofInt 100).toInt32)).toInt = ((C / 100 : Nat) : Int) := n_div (X := C) (Y := 100) hC (show _ = ((100 : Nat) : Int) from k_92) (by omega)
                        refine g_bipush (n := 10) rfl ?_
                        have k_94 : ((Int8.ofInt 10).toInt32).toInt = 10 := rfl
                        refine g_irem rfl (by decide) ?_
                        have t_95 : ((((co S) / (Int8.ofInt 100).toInt32) - ((co S) / (Int8.ofInt 100).toInt32) / (Int8.ofInt 10).toInt32 * (Int8.ofInt 10).toInt32)).toInt = (((C / 100) % 10 : Nat) : Int) := n_rem (X := C / 100) (Y := 10) t_93 (show _ = ((10 : Nat) : Int) from k_94) (by omega)
                        refine g_iload_n (i := 3) rfl rfl ?_
                        refine g_bipush (n := 10) rfl ?_
                        refine g_idiv rfl (by decide) ?_
                        have t_96 : (((co S) / (Int8.ofInt 10).toInt32)).toInt = ((C / 10 : Nat) : Int) := n_div (X := C) (Y := 10) hC (show _ = ((10 : Nat) : Int) from k_94) (by omega)
                        refine g_bipush (n := 10) rfl ?_
                        refine g_irem rfl (by decide) ?_
                        have t_97 : ((((co S) / (Int8.ofInt 10).toInt32) - ((co S) / (Int8.ofInt 10).toInt32) / (Int8.ofInt 10).toInt32 * (Int8.ofInt 10).toInt32)).toInt = (((C / 10) % 10 : Nat) : Int) := n_rem (X := C / 10) (Y := 10) t_96 (show _ = ((10 : Nat) : Int) from k_94) (by omega)
                        refine g_imul rfl ?_
                        refine g_ireturn (ty := .int) rfl rfl rfl ?_
                        have hb1 := n_rem (n_div hC (show (Int8.ofInt 10).toInt32.toInt = ((10 : Nat) : Int) from rfl) (by decide)) (show (Int8.ofInt 10).toInt32.toInt = ((10 : Nat) : Int) from rfl) (by decide)
                        have ha1 := n_rem (n_div hC (show (Int8.ofInt 100).toInt32.toInt = ((100 : Nat) : Int) from rfl) (by decide)) (show (Int8.ofInt 10).toInt32.toInt = ((10 : Nat) : Int) from rfl) (by decide)
                        exact Or.inr ⟨by omega, Or.inr (Or.inr ⟨h2, Or.inr ⟨hi, by unfold tlS; rw [if_neg (by omega), if_neg (by omega), if_neg (by omega), if_neg (by omega), if_pos hs2]; exact congrArg (fun z => some (Value.int z)) (of_n (n_mul ha1 hb1 (by omega)) (by omega))⟩⟩)⟩
                      · skip
                        refine g_tsOut 213 rfl (by omega) rfl ?_
                        refine g_iload_n (i := 3) rfl rfl ?_
                        refine g_bipush (n := 10) rfl ?_
                        have k_98 : ((Int8.ofInt 10).toInt32).toInt = 10 := rfl
                        refine g_idiv rfl (by decide) ?_
                        have t_99 : (((co S) / (Int8.ofInt 10).toInt32)).toInt = ((C / 10 : Nat) : Int) := n_div (X := C) (Y := 10) hC (show _ = ((10 : Nat) : Int) from k_98) (by omega)
                        refine g_bipush (n := 10) rfl ?_
                        refine g_irem rfl (by decide) ?_
                        have t_100 : ((((co S) / (Int8.ofInt 10).toInt32) - ((co S) / (Int8.ofInt 10).toInt32) / (Int8.ofInt 10).toInt32 * (Int8.ofInt 10).toInt32)).toInt = (((C / 10) % 10 : Nat) : Int) := n_rem (X := C / 10) (Y := 10) t_99 (show _ = ((10 : Nat) : Int) from k_98) (by omega)
                        refine g_ireturn (ty := .int) rfl rfl rfl ?_
                        have hb1 := n_rem (n_div hC (show (Int8.ofInt 10).toInt32.toInt = ((10 : Nat) : Int) from rfl) (by decide)) (show (Int8.ofInt 10).toInt32.toInt = ((10 : Nat) : Int) from rfl) (by decide)
                        have ha1 := n_rem (n_div hC (show (Int8.ofInt 100).toInt32.toInt = ((100 : Nat) : Int) from rfl) (by decide)) (show (Int8.ofInt 10).toInt32.toInt = ((10 : Nat) : Int) from rfl) (by decide)
                        exact Or.inr ⟨by omega, Or.inr (Or.inr ⟨h2, Or.inr ⟨hi, by unfold tlS; rw [if_neg (by omega), if_pos (Or.inr hs2)]; exact congrArg (fun z => some (Value.int z)) (of_n hb1 (by omega))⟩⟩)⟩
                    · skip
                      rw [i_eq, t_10, k_84] at c_83
                      refine g_iload_n (i := 2) rfl rfl ?_
                      refine g_iconst (n := 2) rfl ?_
                      have k_102 : (Int32.ofInt 2).toInt = 2 := rfl
                      refine g_icmp_ne 110 rfl rfl (fun c_101 => ?_) (fun c_101 => ?_)
                      · skip
                        rw [i_eq, k_102] at c_101
                        refine g_aload_n (i := 0) rfl rfl ?_
                        refine g_bipush (n := (-2)) rfl ?_
                        refine g_virt1 (Qc := fun r h' => r = some (.int (-2)) ∧ h' = h.set 61 (rFc (bump R 2))) rfl (by decide) rfl hr rfl (Nat.le_of_ble_eq_true rfl) (s_no2 (X := 2) (by omega) hr hR rfl (by decide)) (fun r h9 hq9 => ?_)
                        obtain ⟨rfl, rfl⟩ := hq9
                        refine g_ireturn (ty := .int) rfl rfl rfl ?_
                        exact Or.inr ⟨by omega, Or.inr (Or.inr ⟨h2, Or.inl ⟨by unfold isoK; omega, rfl⟩⟩)⟩
                      · skip
                        rw [i_eq, k_102] at c_101
                        refine g_iload (i := 4) rfl rfl ?_
                        refine g_bipush (n := 6) rfl ?_
                        refine g_icmp_eq 117 rfl rfl (fun c_103 => ?_) (fun c_103 => ?_)
                        · skip
                          rw [i_eq, t_10, k_5] at c_103
                          refine g_iload_n (i := 2) rfl rfl ?_
                          have hk : k.toInt = 0 ∨ k.toInt = 1 ∨ k.toInt = 2 ∨ k.toInt = 3 ∨ k.toInt = 4 ∨ k.toInt = 5 ∨ k.toInt = 6 := by omega
                          have hi : isoK (C / 1000) k.toInt := by unfold isoK; omega
                          have hab := dg_le (show C / 100 % 10 < 10 by omega) (show C / 10 % 10 < 10 by omega)
                          rcases hk with hs2 | hs2 | hs2 | hs2 | hs2 | hs2 | hs2
                          · skip
                            refine g_tsIn 0 156 rfl (by omega) (by rw [hs2]; rfl) rfl rfl ?_
                            refine g_aload_n (i := 0) rfl rfl ?_
                            refine g_aload_n (i := 0) rfl rfl ?_
                            refine g_iload_n (i := 3) rfl rfl ?_
                            refine g_iconst (n := 0) rfl ?_
                            refine g_virt2 (Qc := fun r h' => h' = h ∧ r = some (.long (sdS W (W * H) C 0))) rfl (by decide) rfl hr rfl (Nat.le_of_ble_eq_true rfl) (sd0 ((Int32.ofInt 0))) (fun r h hq9 => ?_)
                            obtain ⟨rfl, rfl⟩ := hq9
                            refine g_virt1 (Qc := fun r h' => h' = h ∧ r = some (.int (Int32.ofNat (cnt (sdS W (W * H) C 0))))) rfl (by decide) rfl hr rfl (Nat.le_of_ble_eq_true rfl) (s_manyE (by omega)) (fun r h hq9 => ?_)
                            obtain ⟨rfl, rfl⟩ := hq9
                            refine g_ireturn (ty := .int) rfl rfl rfl ?_
                            exact Or.inr ⟨by omega, Or.inr (Or.inr ⟨h2, Or.inr ⟨hi, by unfold tlS; rw [if_neg (by omega), if_neg (by omega), if_neg (by omega), if_neg (by omega), if_neg (by omega)]⟩⟩)⟩
                          · skip
                            refine g_tsIn 1 167 rfl (by omega) (by rw [hs2]; rfl) rfl rfl ?_
                            refine g_aload_n (i := 0) rfl rfl ?_
                            refine g_aload_n (i := 0) rfl rfl ?_
                            refine g_iload_n (i := 3) rfl rfl ?_
                            refine g_iconst (n := 1) rfl ?_
                            refine g_virt2 (Qc := fun r h' => h' = h ∧ r = some (.long (sdS W (W * H) C 1))) rfl (by decide) rfl hr rfl (Nat.le_of_ble_eq_true rfl) (sd0 ((Int32.ofInt 1))) (fun r h hq9 => ?_)
                            obtain ⟨rfl, rfl⟩ := hq9
                            refine g_virt1 (Qc := fun r h' => h' = h ∧ r = some (.int (Int32.ofNat (cnt (sdS W (W * H) C 1))))) rfl (by decide) rfl hr rfl (Nat.le_of_ble_eq_true rfl) (s_manyE (by omega)) (fun r h hq9 => ?_)
                            obtain ⟨rfl, rfl⟩ := hq9
                            refine g_ireturn (ty := .int) rfl rfl rfl ?_
                            exact Or.inr ⟨by omega, Or.inr (Or.inr ⟨h2, Or.inr ⟨hi, by unfold tlS; rw [if_pos hs2]⟩⟩)⟩
                          · skip
                            refine g_tsIn 2 213 rfl (by omega) (by rw [hs2]; rfl) rfl rfl ?_
                            refine g_iload_n (i := 3) rfl rfl ?_
                            refine g_bipush (n := 10) rfl ?_
                            have k_104 : ((Int8.ofInt 10).toInt32).toInt = 10 := rfl
                            refine g_idiv rfl (by decide) ?_
                            have t_105 : (((co S) / (Int8.ofInt 10).toInt32)).toInt = ((C / 10 : Nat) : Int) := n_div (X := C) (Y := 10) hC (show _ = ((10 : Nat) : Int) from k_104) (by omega)
                            refine g_bipush (n := 10) rfl ?_
                            refine g_irem rfl (by decide) ?_
                            have t_106 : ((((co S) / (Int8.ofInt 10).toInt32) - ((co S) / (Int8.ofInt 10).toInt32) / (Int8.ofInt 10).toInt32 * (Int8.ofInt 10).toInt32)).toInt = (((C / 10) % 10 : Nat) : Int) := n_rem (X := C / 10) (Y := 10) t_105 (show _ = ((10 : Nat) : Int) from k_104) (by omega)
                            refine g_ireturn (ty := .int) rfl rfl rfl ?_
                            have hb1 := n_rem (n_div hC (show (Int8.ofInt 10).toInt32.toInt = ((10 : Nat) : Int) from rfl) (by decide)) (show (Int8.ofInt 10).toInt32.toInt = ((10 : Nat) : Int) from rfl) (by decide)
                            have ha1 := n_rem (n_div hC (show (Int8.ofInt 100).toInt32.toInt = ((100 : Nat) : Int) from rfl) (by decide)) (show (Int8.ofInt 10).toInt32.toInt = ((10 : Nat) : Int) from rfl) (by decide)
                            exact Or.inr ⟨by omega, Or.inr (Or.inr ⟨h2, Or.inr ⟨hi, by unfold tlS; rw [if_neg (by omega), if_pos (Or.inl hs2)]; exact congrArg (fun z => some (Value.int z)) (of_n hb1 (by omega))⟩⟩)⟩
                          · skip
                            refine g_tsIn 3 178 rfl (by omega) (by rw [hs2]; rfl) rfl rfl ?_
                            refine g_aload_n (i := 0) rfl rfl ?_
                            refine g_aload_n (i := 0) rfl rfl ?_
                            refine g_iload_n (i := 3) rfl rfl ?_
                            refine g_iconst (n := 2) rfl ?_
                            refine g_virt2 (Qc := fun r h' => h' = h ∧ r = some (.long (sdS W (W * H) C 2))) rfl (by decide) rfl hr rfl (Nat.le_of_ble_eq_true rfl) (sd0 ((Int32.ofInt 2))) (fun r h hq9 => ?_)
                            obtain ⟨rfl, rfl⟩ := hq9
                            refine g_virt1 (Qc := fun r h' => h' = h ∧ r = some (.int (Int32.ofNat (cnt (sdS W (W * H) C 2))))) rfl (by decide) rfl hr rfl (Nat.le_of_ble_eq_true rfl) (s_manyE (by omega)) (fun r h hq9 => ?_)
                            obtain ⟨rfl, rfl⟩ := hq9
                            refine g_ireturn (ty := .int) rfl rfl rfl ?_
                            exact Or.inr ⟨by omega, Or.inr (Or.inr ⟨h2, Or.inr ⟨hi, by unfold tlS; rw [if_neg (by omega), if_neg (by omega), if_pos hs2]⟩⟩)⟩
                          · skip
                            refine g_tsIn 4 189 rfl (by omega) (by rw [hs2]; rfl) rfl rfl ?_
                            refine g_iload_n (i := 3) rfl rfl ?_
                            refine g_bipush (n := 100) rfl ?_
                            have k_107 : ((Int8.ofInt 100).toInt32).toInt = 100 := rfl
                            refine g_idiv rfl (by decide) ?_
                            have t_108 : (((co S) / (Int8.ofInt 100).toInt32)).toInt = ((C / 100 : Nat) : Int) := n_div (X := C) (Y := 100) hC (show _ = ((100 : Nat) : Int) from k_107) (by omega)
                            refine g_bipush (n := 10) rfl ?_
                            have k_109 : ((Int8.ofInt 10).toInt32).toInt = 10 := rfl
                            refine g_irem rfl (by decide) ?_
                            have t_110 : ((((co S) / (Int8.ofInt 100).toInt32) - ((co S) / (Int8.ofInt 100).toInt32) / (Int8.ofInt 10).toInt32 * (Int8.ofInt 10).toInt32)).toInt = (((C / 100) % 10 : Nat) : Int) := n_rem (X := C / 100) (Y := 10) t_108 (show _ = ((10 : Nat) : Int) from k_109) (by omega)
                            refine g_ireturn (ty := .int) rfl rfl rfl ?_
                            have hb1 := n_rem (n_div hC (show (Int8.ofInt 10).toInt32.toInt = ((10 : Nat) : Int) from rfl) (by decide)) (show (Int8.ofInt 10).toInt32.toInt = ((10 : Nat) : Int) from rfl) (by decide)
                            have ha1 := n_rem (n_div hC (show (Int8.ofInt 100).toInt32.toInt = ((100 : Nat) : Int) from rfl) (by decide)) (show (Int8.ofInt 10).toInt32.toInt = ((10 : Nat) : Int) from rfl) (by decide)
                            exact Or.inr ⟨by omega, Or.inr (Or.inr ⟨h2, Or.inr ⟨hi, by unfold tlS; rw [if_neg (by omega), if_neg (by omega), if_neg (by omega), if_pos hs2]; exact congrArg (fun z => some (Value.int z)) (of_n ha1 (by omega))⟩⟩)⟩
                          · skip
                            refine g_tsIn 5 197 rfl (by omega) (by rw [hs2]; rfl) rfl rfl ?_
                            refine g_iload_n (i := 3) rfl rfl ?_
                            refine g_bipush (n := 100) rfl ?_
                            have k_111 : ((Int8.ofInt 100).toInt32).toInt = 100 := rfl
                            refine g_idiv rfl (by decide) ?_
                            have t_112 : (((co S) / (Int8.ofInt 100).toInt32)).toInt = ((C / 100 : Nat) : Int) := n_div (X := C) (Y := 100) hC (show _ = ((100 : Nat) : Int) from k_111) (by omega)
                            refine g_bipush (n := 10) rfl ?_
                            have k_113 : ((Int8.ofInt 10).toInt32).toInt = 10 := rfl
                            refine g_irem rfl (by decide) ?_
                            have t_114 : ((((co S) / (Int8.ofInt 100).toInt32) - ((co S) / (Int8.ofInt 100).toInt32) / (Int8.ofInt 10).toInt32 * (Int8.ofInt 10).toInt32)).toInt = (((C / 100) % 10 : Nat) : Int) := n_rem (X := C / 100) (Y := 10) t_112 (show _ = ((10 : Nat) : Int) from k_113) (by omega)
                            refine g_iload_n (i := 3) rfl rfl ?_
                            refine g_bipush (n := 10) rfl ?_
                            refine g_idiv rfl (by decide) ?_
                            have t_115 : (((co S) / (Int8.ofInt 10).toInt32)).toInt = ((C / 10 : Nat) : Int) := n_div (X := C) (Y := 10) hC (show _ = ((10 : Nat) : Int) from k_113) (by omega)
                            refine g_bipush (n := 10) rfl ?_
                            refine g_irem rfl (by decide) ?_
                            have t_116 : ((((co S) / (Int8.ofInt 10).toInt32) - ((co S) / (Int8.ofInt 10).toInt32) / (Int8.ofInt 10).toInt32 * (Int8.ofInt 10).toInt32)).toInt = (((C / 10) % 10 : Nat) : Int) := n_rem (X := C / 10) (Y := 10) t_115 (show _ = ((10 : Nat) : Int) from k_113) (by omega)
                            refine g_imul rfl ?_
                            refine g_ireturn (ty := .int) rfl rfl rfl ?_
                            have hb1 := n_rem (n_div hC (show (Int8.ofInt 10).toInt32.toInt = ((10 : Nat) : Int) from rfl) (by decide)) (show (Int8.ofInt 10).toInt32.toInt = ((10 : Nat) : Int) from rfl) (by decide)
                            have ha1 := n_rem (n_div hC (show (Int8.ofInt 100).toInt32.toInt = ((100 : Nat) : Int) from rfl) (by decide)) (show (Int8.ofInt 10).toInt32.toInt = ((10 : Nat) : Int) from rfl) (by decide)
                            exact Or.inr ⟨by omega, Or.inr (Or.inr ⟨h2, Or.inr ⟨hi, by unfold tlS; rw [if_neg (by omega), if_neg (by omega), if_neg (by omega), if_neg (by omega), if_pos hs2]; exact congrArg (fun z => some (Value.int z)) (of_n (n_mul ha1 hb1 (by omega)) (by omega))⟩⟩)⟩
                          · skip
                            refine g_tsOut 213 rfl (by omega) rfl ?_
                            refine g_iload_n (i := 3) rfl rfl ?_
                            refine g_bipush (n := 10) rfl ?_
                            have k_117 : ((Int8.ofInt 10).toInt32).toInt = 10 := rfl
                            refine g_idiv rfl (by decide) ?_
                            have t_118 : (((co S) / (Int8.ofInt 10).toInt32)).toInt = ((C / 10 : Nat) : Int) := n_div (X := C) (Y := 10) hC (show _ = ((10 : Nat) : Int) from k_117) (by omega)
                            refine g_bipush (n := 10) rfl ?_
                            refine g_irem rfl (by decide) ?_
                            have t_119 : ((((co S) / (Int8.ofInt 10).toInt32) - ((co S) / (Int8.ofInt 10).toInt32) / (Int8.ofInt 10).toInt32 * (Int8.ofInt 10).toInt32)).toInt = (((C / 10) % 10 : Nat) : Int) := n_rem (X := C / 10) (Y := 10) t_118 (show _ = ((10 : Nat) : Int) from k_117) (by omega)
                            refine g_ireturn (ty := .int) rfl rfl rfl ?_
                            have hb1 := n_rem (n_div hC (show (Int8.ofInt 10).toInt32.toInt = ((10 : Nat) : Int) from rfl) (by decide)) (show (Int8.ofInt 10).toInt32.toInt = ((10 : Nat) : Int) from rfl) (by decide)
                            have ha1 := n_rem (n_div hC (show (Int8.ofInt 100).toInt32.toInt = ((100 : Nat) : Int) from rfl) (by decide)) (show (Int8.ofInt 10).toInt32.toInt = ((10 : Nat) : Int) from rfl) (by decide)
                            exact Or.inr ⟨by omega, Or.inr (Or.inr ⟨h2, Or.inr ⟨hi, by unfold tlS; rw [if_neg (by omega), if_pos (Or.inr hs2)]; exact congrArg (fun z => some (Value.int z)) (of_n hb1 (by omega))⟩⟩)⟩
                        · skip
                          rw [i_eq, t_10, k_5] at c_103
                          refine g_aload_n (i := 0) rfl rfl ?_
                          refine g_bipush (n := (-2)) rfl ?_
                          refine g_virt1 (Qc := fun r h' => r = some (.int (-2)) ∧ h' = h.set 61 (rFc (bump R 2))) rfl (by decide) rfl hr rfl (Nat.le_of_ble_eq_true rfl) (s_no2 (X := 2) (by omega) hr hR rfl (by decide)) (fun r h9 hq9 => ?_)
                          obtain ⟨rfl, rfl⟩ := hq9
                          refine g_ireturn (ty := .int) rfl rfl rfl ?_
                          exact Or.inr ⟨by omega, Or.inr (Or.inr ⟨h2, Or.inl ⟨by unfold isoK; omega, rfl⟩⟩)⟩
          · skip
            rw [i_eq, k_3] at c_8
            refine g_aload_n (i := 0) rfl rfl ?_
            refine g_bipush (n := (-3)) rfl ?_
            refine g_virt1 (Qc := fun r h' => r = some (.int (-3)) ∧ h' = h.set 61 (rFc (bump R 3))) rfl (by decide) rfl hr rfl (Nat.le_of_ble_eq_true rfl) (s_no2 (X := 3) (by omega) hr hR rfl (by decide)) (fun r h9 hq9 => ?_)
            obtain ⟨rfl, rfl⟩ := hq9
            refine g_ireturn (ty := .int) rfl rfl rfl ?_
            exact Or.inr ⟨by omega, Or.inr (Or.inl ⟨Int32.toInt_inj.mp (by omega), rfl⟩)⟩
        · skip
          rw [i_eq, k_7] at c_6
          refine g_aload_n (i := 0) rfl rfl ?_
          refine g_bipush (n := (-2)) rfl ?_
          refine g_virt1 (Qc := fun r h' => r = some (.int (-2)) ∧ h' = h.set 61 (rFc (bump R 2))) rfl (by decide) rfl hr rfl (Nat.le_of_ble_eq_true rfl) (s_no2 (X := 2) (by omega) hr hR rfl (by decide)) (fun r h9 hq9 => ?_)
          obtain ⟨rfl, rfl⟩ := hq9
          refine g_ireturn (ty := .int) rfl rfl rfl ?_
          exact Or.inr ⟨by omega, Or.inl ⟨Int32.toInt_inj.mp (by omega), rfl⟩⟩
      · skip
        rw [i_le, k_5] at c_4
        refine g_aload_n (i := 0) rfl rfl ?_
        refine g_iconst (n := (-1)) rfl ?_
        refine g_virt1 (Qc := fun r h' => r = some (.int (-1)) ∧ h' = h.set 61 (rFc (bump R 1))) rfl (by decide) rfl hr rfl (Nat.le_of_ble_eq_true rfl) (s_no2 (X := 1) (by omega) hr hR rfl (by decide)) (fun r h9 hq9 => ?_)
        obtain ⟨rfl, rfl⟩ := hq9
        refine g_ireturn (ty := .int) rfl rfl rfl ?_
        exact Or.inl ⟨by omega, rfl⟩
  · skip
    refine g_if_eq 18 rfl rfl (fun _ => ?_) (fun hc => absurd hc (by decide))
    refine g_aload_n (i := 0) rfl rfl ?_
    refine g_iconst (n := (-1)) rfl ?_
    refine g_virt1 (Qc := fun r h' => r = some (.int (-1)) ∧ h' = h.set 61 (rFc (bump R 1))) rfl (by decide) rfl hr rfl (Nat.le_of_ble_eq_true rfl) (s_no2 (X := 1) (by omega) hr hR rfl (by decide)) (fun r h9 hq9 => ?_)
    obtain ⟨rfl, rfl⟩ := hq9
    refine g_ireturn (ty := .int) rfl rfl rfl ?_
    exact Or.inl ⟨by omega, rfl⟩
theorem pr7_says (s : Int32) (k : Int32) : pairR bR7 120 189 [.int s, .int k] := pr_q (c1 := cn_X11_says_0) (c2 := cn_X12_says_0) ch_X11_says_0 ch_X12_says_0 (by decide +kernel) (by decide +kernel) (by decide +kernel) (by decide +kernel) rfl rfl (fun h hH => ⟨bt0 hH, vI0 s, vI0 k, trivial⟩) (fun h hH => ⟨bt60 hH, vI0 s, vI0 k, trivial⟩) (by decide +kernel) (by decide +kernel) (fun h hH hR => by
  obtain ⟨c, m, W, H, N, ik, tf, R, hd, so, sz, co, cl, f, gg, F, g, M, gM, h0, hR43, q4, bs, hN, c11, m6⟩ := un7 hH hR
  have q4' := q4
  obtain ⟨a1, a2, a3, a4, a5, a6, a7, a8⟩ := q4'
  have h3 : ∀ S, S < 8 → hd S = 0 ∨ hd S = 1 ∨ hd S = 2 := fun S hS => hd_3 (bs S hS)
  have hco : ∀ S, S < 8 → hd S = 2 → 0 ≤ (co S).toInt ∧ (co S).toInt < 7000 := fun S hS h2 => by
    obtain ⟨pc, C, -, -, -, hc, hx⟩ := cut_at (bs S hS) h2
    omega
  have rfin : ∀ h1, bH h1 → vE h h1 → sDo 10 189 [.ref 60, .int s, .int k] h1 (fun r h' => _) := fun h1 hH1 E => by
    obtain ⟨Rm, hRm⟩ := RA_of hH1 (p := 61) (Or.inr rfl)
    exact s_says12 (d := 10) (s := s) (k := k) (by omega) (vE_at E M.1 (by decide)) hRm (vE_at E a4 (by decide)) gM (vE_at E a7 (by decide)) h3 hco
  by_cases hS : 0 ≤ s.toInt ∧ s.toInt < 8
  · obtain ⟨S, hs⟩ : ∃ S : Nat, s.toInt = S := ⟨s.toInt.toNat, by omega⟩
    have eS : s.toInt.toNat = S := by omega
    have hno := s_noCutIn (d := 9) (by omega) h0 q4 bs hs (by omega)
    by_cases h2 : hd S = 2
    · obtain ⟨pc, C, -, hg, a, hc, hx⟩ := cut_at (bs S (by omega)) h2
      have eC : (co S).toInt.toNat = C := by omega
      unfold ncS at hno
      rw [if_pos h2] at hno
      have c1 := s_says11c (d := 10) (k := k) (by omega) h0 F g hR43 a3 hs (by omega) hg hc a hx hno
      by_cases hk : k.toInt < 0 ∨ 6 < k.toInt
      · refine ⟨.int (-1), sDo_mono c1 (fun r h' q => ?_), fun h1 hH1 E => sDo_mono (rfin h1 hH1 E) (fun r h' q => ?_)⟩
        · rcases q with ⟨-, rfl, rfl⟩ | ⟨z, -⟩
          · exact ⟨rfl, vE_43⟩
          · exact absurd hk z
        · rcases q with ⟨-, rfl⟩ | ⟨z, -⟩
          · rfl
          · exact absurd (Or.inr hk) z
      · by_cases hi : isoK (C / 1000) k.toInt
        · refine ⟨.int (tlS W (W * H) C k.toInt), sDo_mono c1 (fun r h' q => ?_), fun h1 hH1 E => sDo_mono (rfin h1 hH1 E) (fun r h' q => ?_)⟩
          · rcases q with ⟨z, -⟩ | ⟨-, ⟨z, -⟩ | ⟨-, rfl, rfl⟩⟩
            · exact absurd z hk
            · exact absurd hi z
            · exact ⟨rfl, vE_rfl⟩
          · rw [eS, eC] at q
            rcases q with ⟨z, -⟩ | ⟨-, ⟨z, -⟩ | ⟨z, -⟩ | ⟨-, ⟨z, -⟩ | ⟨-, rfl⟩⟩⟩
            · exact absurd z (fun z => z.elim (fun y => y hS) hk)
            · rw [h2] at z; exact absurd z (by decide)
            · rw [h2] at z; exact absurd z (by decide)
            · exact absurd hi z
            · rfl
        · refine ⟨.int (-2), sDo_mono c1 (fun r h' q => ?_), fun h1 hH1 E => sDo_mono (rfin h1 hH1 E) (fun r h' q => ?_)⟩
          · rcases q with ⟨z, -⟩ | ⟨-, ⟨-, rfl, rfl⟩ | ⟨z, -⟩⟩
            · exact absurd z hk
            · exact ⟨rfl, vE_43⟩
            · exact absurd z hi
          · rw [eS, eC] at q
            rcases q with ⟨z, -⟩ | ⟨-, ⟨z, -⟩ | ⟨z, -⟩ | ⟨-, ⟨-, rfl⟩ | ⟨z, -⟩⟩⟩
            · exact absurd z (fun z => z.elim (fun y => y hS) hk)
            · rw [h2] at z; exact absurd z (by decide)
            · rw [h2] at z; exact absurd z (by decide)
            · rfl
            · exact absurd z hi
    · have h01 : hd S = 0 ∨ hd S = 1 := by
        rcases h3 S (by omega) with e | e | e
        · exact Or.inl e
        · exact Or.inr e
        · exact absurd e h2
      obtain ⟨B, hB, eB⟩ := nc_b h01
      have c1 := s_says11n (d := 10) (k := k) (by omega) h0 hR43 eB ⟨by omega, by omega⟩ hno
      by_cases hk : k.toInt < 0 ∨ 6 < k.toInt
      · refine ⟨.int (-1), sDo_mono c1 (fun r h' q => ?_), fun h1 hH1 E => sDo_mono (rfin h1 hH1 E) (fun r h' q => ?_)⟩
        · rcases q with ⟨-, rfl, rfl⟩ | ⟨z, -⟩
          · exact ⟨rfl, vE_43⟩
          · exact absurd (Or.inr hk) z
        · rcases q with ⟨-, rfl⟩ | ⟨z, -⟩
          · rfl
          · exact absurd (Or.inr hk) z
      · refine ⟨.int (ncS hd S), sDo_mono c1 (fun r h' q => ?_), fun h1 hH1 E => sDo_mono (rfin h1 hH1 E) (fun r h' q => ?_)⟩
        · rcases q with ⟨z, -⟩ | ⟨-, rfl, rfl⟩
          · exact absurd z (fun z => z.elim (fun y => by omega) hk)
          · exact ⟨rfl, vE_43⟩
        · rw [eS] at q
          unfold ncS
          rcases q with ⟨z, -⟩ | ⟨-, ⟨z, rfl⟩ | ⟨z, rfl⟩ | ⟨z, -⟩⟩
          · exact absurd z (fun z => z.elim (fun y => y hS) hk)
          · rw [z]; rfl
          · rw [z]; rfl
          · exact absurd z h2
  · have c1 := s_says11n (d := 10) (k := k) (B := 1) (by omega) h0 hR43 (show (-1 : Int32).toInt = -((1 : Nat) : Int) from rfl) (by decide) (s_noCutOX (d := 7) hS)
    refine ⟨.int (-1), sDo_mono c1 (fun r h' q => ?_), fun h1 hH1 E => sDo_mono (rfin h1 hH1 E) (fun r h' q => ?_)⟩
    · rcases q with ⟨-, rfl, rfl⟩ | ⟨z, -⟩
      · exact ⟨rfl, vE_43⟩
      · exact absurd (Or.inl rfl) z
    · rcases q with ⟨-, rfl⟩ | ⟨z, -⟩
      · rfl
      · exact absurd (Or.inl hS) z)
