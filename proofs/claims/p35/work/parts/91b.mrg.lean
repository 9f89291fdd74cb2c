section
/-! ===== the class itself, refusals ===== -/
theorem i_neg {x : Int32} (h : -2147483648 < x.toInt) : (-x).toInt = -x.toInt := by
  have h2 := Int32.toInt_lt x
  rw [Int32.toInt_neg]
  exact Int.bmod_eq_of_le (by omega) (by omega)
def cO (ik tf : Int32) : va_E := .inr (11, [.ref 1, .ref 2, .ref 3, .ref 5, .ref 16, .ref 27, .ref 38, .ref 42, .ref 43, .int ik, .int tf])
def rFc (R : Nat → Int32) : va_E := .inl (0, 8, .inl R)
def bump (R : Nat → Int32) (X : Nat) : Nat → Int32 := upd R X (R X + Int32.ofInt 1)
theorem CO_of {h : sHp} (hH : bH h) : ∃ ik tf : Int32, h[0]? = some (cO ik tf) ∧ (ik = 0 ∨ ik = 1) := by
  obtain ⟨fs, hf, hl, ht⟩ := bFldK hH (p := 0) (by decide) rfl
  obtain ⟨v0, e0, t0⟩ := ht 0 _ rfl
  have r0 := bT_one (by decide) (by decide +kernel) t0
  subst r0
  obtain ⟨v1, e1, t1⟩ := ht 1 _ rfl
  have r1 := bT_one (by decide) (by decide +kernel) t1
  subst r1
  obtain ⟨v2, e2, t2⟩ := ht 2 _ rfl
  have r2 := bT_one (by decide) (by decide +kernel) t2
  subst r2
  obtain ⟨v3, e3, t3⟩ := ht 3 _ rfl
  have r3 := bT_one (by decide) (by decide +kernel) t3
  subst r3
  obtain ⟨v4, e4, t4⟩ := ht 4 _ rfl
  have r4 := bT_one (by decide) (by decide +kernel) t4
  subst r4
  obtain ⟨v5, e5, t5⟩ := ht 5 _ rfl
  have r5 := bT_one (by decide) (by decide +kernel) t5
  subst r5
  obtain ⟨v6, e6, t6⟩ := ht 6 _ rfl
  have r6 := bT_one (by decide) (by decide +kernel) t6
  subst r6
  obtain ⟨v7, e7, t7⟩ := ht 7 _ rfl
  have r7 := bT_one (by decide) (by decide +kernel) t7
  subst r7
  obtain ⟨v8, e8, t8⟩ := ht 8 _ rfl
  have r8 := bT_one (by decide) (by decide +kernel) t8
  subst r8
  obtain ⟨v9, e9, t9⟩ := ht 9 _ rfl
  obtain ⟨x9, rfl, y9, z9⟩ := bT_int t9
  obtain ⟨v10, e10, t10⟩ := ht 10 _ rfl
  obtain ⟨x10, rfl, y10, z10⟩ := bT_int t10
  have e : fs = [.ref 1, .ref 2, .ref 3, .ref 5, .ref 16, .ref 27, .ref 38, .ref 42, .ref 43, .int x9, .int x10] := List.ext_getElem? (fun j => match j with
    | 0 => e0
    | 1 => e1
    | 2 => e2
    | 3 => e3
    | 4 => e4
    | 5 => e5
    | 6 => e6
    | 7 => e7
    | 8 => e8
    | 9 => e9
    | 10 => e10
    | n + 11 => by rw [List.getElem?_eq_none (by rw [hl]; show 11 ≤ n + 11; omega)]; rfl)
  subst e
  exact ⟨x9, x10, hf, i_01 y9 z9⟩
theorem RA_of {h : sHp} (hH : bH h) {p : Nat} (hp : p = 43 ∨ p = 61) : ∃ R, h[p]? = some (rFc R) := by
  rcases hp with rfl | rfl
  · obtain ⟨R, a, -⟩ := bA60 hH (p := 43) (by decide) rfl; exact ⟨R, a⟩
  · obtain ⟨R, a, -⟩ := bA60 hH (p := 61) (by decide) rfl; exact ⟨R, a⟩
theorem s_refA2 {d : Nat} {h : sHp} {ik tf x y : Int32} {R : Nat → Int32} {X : Nat} (hd : 1 ≤ d) (h0 : h[0]? = some (cO ik tf)) (hR : h[43]? = some (rFc R)) (hx : x.toInt = -(X : Int)) (h1 : 1 ≤ X ∧ X ≤ 7) : sDo d 158 [.ref 0, .int x, .int y] h (fun r h' => r = some (.int y) ∧ h' = h.set 43 (rFc (bump R X))) := by
  have e0 : (0 : Int32).toInt = 0 := rfl
  have e7 : (Int8.ofInt (-7)).toInt32.toInt = -7 := rfl
  refine sDo_of1 (nL := 3) (L := [some (.ref 0), some (.int x), some (.int y)]) hd rfl rfl ?_
  refine g_iload_n (i := 1) rfl rfl ?_
  refine g_if_ge 21 rfl rfl (fun hc => absurd hc (by rw [i_le, hx, e0]; omega)) (fun _ => ?_)
  refine g_iload_n (i := 1) rfl rfl ?_
  refine g_bipush (n := (-7)) rfl ?_
  refine g_icmp_lt 21 rfl rfl (fun hc => absurd hc (by rw [i_lt, hx, e7]; omega)) (fun _ => ?_)
  refine g_aload_n (i := 0) rfl rfl ?_
  refine g_getfield (v := .ref 43) rfl h0 (by decide) rfl ?_
  refine g_iload_n (i := 1) rfl rfl ?_
  refine g_ineg rfl ?_
  have t_1 : ((-x)).toInt = -(-(X : Int)) := by rw [i_neg (by rw [hx]; omega)]; rw [hx]
  refine g_dup2 rfl rfl rfl ?_
  have e_2 : ((-x)).toInt = ((X : Nat) : Int) := by omega
  refine g_iaload (n := 8) (f := R) rfl hR (i_in (by omega) (by omega)) ?_
  rw [i_nat e_2]
  refine g_iconst (n := 1) rfl ?_
  refine g_iadd rfl ?_
  refine g_iastore (n := 8) (f := R) (h1 := h.set 43 (rFc (bump R X))) rfl hR (i_in (by omega) (by omega)) (by rw [i_nat e_2]; rfl) ?_
  refine g_iload_n (i := 2) rfl rfl ?_
  refine g_ireturn (ty := .int) rfl rfl rfl ?_
  exact ⟨rfl, rfl⟩
theorem s_refuse2 {d : Nat} {h : sHp} {ik tf x : Int32} {R : Nat → Int32} {X : Nat} (hd : 2 ≤ d) (h0 : h[0]? = some (cO ik tf)) (hR : h[43]? = some (rFc R)) (hx : x.toInt = -(X : Int)) (h1 : 1 ≤ X ∧ X ≤ 7) : sDo d 157 [.ref 0, .int x] h (fun r h' => r = some (.int x) ∧ h' = h.set 43 (rFc (bump R X))) := by
  refine sDo_of1 (nL := 2) (L := [some (.ref 0), some (.int x)]) (by omega) rfl rfl ?_
  refine g_aload_n (i := 0) rfl rfl ?_
  refine g_iload_n (i := 1) rfl rfl ?_
  refine g_iload_n (i := 1) rfl rfl ?_
  refine g_virt2 (Qc := fun r h' => r = some (.int x) ∧ h' = h.set 43 (rFc (bump R X))) rfl (by decide) rfl h0 rfl (Nat.le_of_ble_eq_true rfl) (s_refA2 (by omega) h0 hR hx h1) (fun r h9 hq9 => ?_)
  obtain ⟨rfl, rfl⟩ := hq9
  refine g_ireturn (ty := .int) rfl rfl rfl ?_
  exact ⟨rfl, rfl⟩
theorem s_no2 {d : Nat} {h : sHp} {J : Nat → Int32} {x : Int32} {R : Nat → Int32} {X : Nat} (hd : 1 ≤ d) (hr : h[60]? = some (mO J)) (hR : h[61]? = some (rFc R)) (hx : x.toInt = -(X : Int)) (h1 : 1 ≤ X ∧ X ≤ 7) : sDo d 169 [.ref 60, .int x] h (fun r h' => r = some (.int x) ∧ h' = h.set 61 (rFc (bump R X))) := by
  refine sDo_of1 (nL := 2) (L := [some (.ref 60), some (.int x)]) hd rfl rfl ?_
  refine g_aload_n (i := 0) rfl rfl ?_
  refine g_getfield (v := .ref 61) rfl hr (by decide) rfl ?_
  refine g_iload_n (i := 1) rfl rfl ?_
  refine g_ineg rfl ?_
  have t_1 : ((-x)).toInt = -(-(X : Int)) := by rw [i_neg (by rw [hx]; omega)]; rw [hx]
  refine g_dup2 rfl rfl rfl ?_
  have e_2 : ((-x)).toInt = ((X : Nat) : Int) := by omega
  refine g_iaload (n := 8) (f := R) rfl hR (i_in (by omega) (by omega)) ?_
  rw [i_nat e_2]
  refine g_iconst (n := 1) rfl ?_
  refine g_iadd rfl ?_
  refine g_iastore (n := 8) (f := R) (h1 := h.set 61 (rFc (bump R X))) rfl hR (i_in (by omega) (by omega)) (by rw [i_nat e_2]; rfl) ?_
  refine g_iload_n (i := 1) rfl rfl ?_
  refine g_ireturn (ty := .int) rfl rfl rfl ?_
  exact ⟨rfl, rfl⟩
theorem s_noTen2 {d : Nat} {h : sHp} {J : Nat → Int32} {x : Int32} {R : Nat → Int32} {X : Nat} (hd : 1 ≤ d) (hr : h[60]? = some (mO J)) (hR : h[61]? = some (rFc R)) (hx : x.toInt = -(X : Int)) (h1 : 1 ≤ X ∧ X ≤ 7) : sDo d 170 [.ref 60, .int x] h (fun r h' => r = some (.int (x - (Int8.ofInt 10).toInt32)) ∧ h' = h.set 61 (rFc (bump R X))) := by
  refine sDo_of1 (nL := 2) (L := [some (.ref 60), some (.int x)]) hd rfl rfl ?_
  refine g_aload_n (i := 0) rfl rfl ?_
  refine g_getfield (v := .ref 61) rfl hr (by decide) rfl ?_
  refine g_iload_n (i := 1) rfl rfl ?_
  refine g_ineg rfl ?_
  have t_1 : ((-x)).toInt = -(-(X : Int)) := by rw [i_neg (by rw [hx]; omega)]; rw [hx]
  refine g_dup2 rfl rfl rfl ?_
  have e_2 : ((-x)).toInt = ((X : Nat) : Int) := by omega
  refine g_iaload (n := 8) (f := R) rfl hR (i_in (by omega) (by omega)) ?_
  rw [i_nat e_2]
  refine g_iconst (n := 1) rfl ?_
  refine g_iadd rfl ?_
  refine g_iastore (n := 8) (f := R) (h1 := h.set 61 (rFc (bump R X))) rfl hR (i_in (by omega) (by omega)) (by rw [i_nat e_2]; rfl) ?_
  refine g_iload_n (i := 1) rfl rfl ?_
  refine g_bipush (n := 10) rfl ?_
  have k_3 : ((Int8.ofInt 10).toInt32).toInt = 10 := rfl
  refine g_isub rfl ?_
  have t_4 : (x - (Int8.ofInt 10).toInt32).toInt = (-(X : Int)) - 10 := by rw [i_sub (by rw [hx, k_3]; omega) (by rw [hx, k_3]; omega), hx, k_3]
  refine g_ireturn (ty := .int) rfl rfl rfl ?_
  exact ⟨rfl, rfl⟩
theorem s_size11 {d : Nat} {h : sHp} {ik tf : Int32} {R : Nat → Int32} {c : CF} {x y : Int32} (hd : 4 ≤ d) (h0 : h[0]? = some (cO ik tf)) (hR : h[43]? = some (rFc R)) (F : FC h 5 c) : sDo d 124 [.ref 0, .int x, .int y] h (fun r h' => (okSz x y ∧ r = some (.int 1) ∧ FC h' 5 (cfSize x y c) ∧ fE 5 h h') ∨ (¬ okSz x y ∧ r = some (.int (-6)) ∧ h' = h.set 43 (rFc (bump R 6)))) := by
  unfold okSz
  refine sDo_of1 (nL := 3) (L := [some (.ref 0), some (.int x), some (.int y)]) (by omega) rfl rfl ?_
  refine g_iload_n (i := 1) rfl rfl ?_
  refine g_iconst (n := 2) rfl ?_
  have k_2 : (Int32.ofInt 2).toInt = 2 := rfl
  refine g_icmp_lt 22 rfl rfl (fun c_1 => ?_) (fun c_1 => ?_)
  · skip
    rw [i_lt, k_2] at c_1
    refine g_aload_n (i := 0) rfl rfl ?_
    refine g_bipush (n := (-6)) rfl ?_
    refine g_virt1 (Qc := fun r h' => r = some (.int ((Int8.ofInt (-6)).toInt32)) ∧ h' = h.set 43 (rFc (bump R 6))) rfl (by decide) rfl h0 rfl (Nat.le_of_ble_eq_true rfl) (s_refuse2 (X := 6) (by omega) h0 hR rfl (by decide)) (fun r h9 hq9 => ?_)
    obtain ⟨rfl, rfl⟩ := hq9
    refine g_ireturn (ty := .int) rfl rfl rfl ?_
    exact Or.inr ⟨by omega, rfl, rfl⟩
  · skip
    rw [i_lt, k_2] at c_1
    refine g_iload_n (i := 1) rfl rfl ?_
    refine g_bipush (n := 8) rfl ?_
    have k_4 : ((Int8.ofInt 8).toInt32).toInt = 8 := rfl
    refine g_icmp_gt 22 rfl rfl (fun c_3 => ?_) (fun c_3 => ?_)
    · skip
      rw [i_lt, k_4] at c_3
      refine g_aload_n (i := 0) rfl rfl ?_
      refine g_bipush (n := (-6)) rfl ?_
      refine g_virt1 (Qc := fun r h' => r = some (.int ((Int8.ofInt (-6)).toInt32)) ∧ h' = h.set 43 (rFc (bump R 6))) rfl (by decide) rfl h0 rfl (Nat.le_of_ble_eq_true rfl) (s_refuse2 (X := 6) (by omega) h0 hR rfl (by decide)) (fun r h9 hq9 => ?_)
      obtain ⟨rfl, rfl⟩ := hq9
      refine g_ireturn (ty := .int) rfl rfl rfl ?_
      exact Or.inr ⟨by omega, rfl, rfl⟩
    · skip
      rw [i_lt, k_4] at c_3
      refine g_iload_n (i := 2) rfl rfl ?_
      refine g_iconst (n := 2) rfl ?_
      refine g_icmp_lt 22 rfl rfl (fun c_5 => ?_) (fun c_5 => ?_)
      · skip
        rw [i_lt, k_2] at c_5
        refine g_aload_n (i := 0) rfl rfl ?_
        refine g_bipush (n := (-6)) rfl ?_
        refine g_virt1 (Qc := fun r h' => r = some (.int ((Int8.ofInt (-6)).toInt32)) ∧ h' = h.set 43 (rFc (bump R 6))) rfl (by decide) rfl h0 rfl (Nat.le_of_ble_eq_true rfl) (s_refuse2 (X := 6) (by omega) h0 hR rfl (by decide)) (fun r h9 hq9 => ?_)
        obtain ⟨rfl, rfl⟩ := hq9
        refine g_ireturn (ty := .int) rfl rfl rfl ?_
        exact Or.inr ⟨by omega, rfl, rfl⟩
      · skip
        rw [i_lt, k_2] at c_5
        refine g_iload_n (i := 2) rfl rfl ?_
        refine g_bipush (n := 8) rfl ?_
        refine g_icmp_le 29 rfl rfl (fun c_6 => ?_) (fun c_6 => ?_)
        · skip
          rw [i_le, k_4] at c_6
          refine g_aload_n (i := 0) rfl rfl ?_
          refine g_getfield (v := .ref 5) rfl h0 (by decide) rfl ?_
          refine g_iload_n (i := 1) rfl rfl ?_
          refine g_iload_n (i := 2) rfl rfl ?_
          refine g_virt2 (Qc := fun r h' => r = none ∧ FC h' 5 (cfSize x y c) ∧ fE 5 h h') rfl (by decide) rfl F.1 rfl (Nat.le_of_ble_eq_true rfl) (sDo_up (d := 2) (by omega) (s_resize (d := 0) F (by omega) (by omega))) (fun r h9 hq9 => ?_)
          obtain ⟨rfl, q1, q2⟩ := hq9
          refine g_iconst (n := 1) rfl ?_
          refine g_ireturn (ty := .int) rfl rfl rfl ?_
          exact Or.inl ⟨by omega, rfl, q1, q2⟩
        · skip
          rw [i_le, k_4] at c_6
          refine g_aload_n (i := 0) rfl rfl ?_
          refine g_bipush (n := (-6)) rfl ?_
          refine g_virt1 (Qc := fun r h' => r = some (.int ((Int8.ofInt (-6)).toInt32)) ∧ h' = h.set 43 (rFc (bump R 6))) rfl (by decide) rfl h0 rfl (Nat.le_of_ble_eq_true rfl) (s_refuse2 (X := 6) (by omega) h0 hR rfl (by decide)) (fun r h9 hq9 => ?_)
          obtain ⟨rfl, rfl⟩ := hq9
          refine g_ireturn (ty := .int) rfl rfl rfl ?_
          exact Or.inr ⟨by omega, rfl, rfl⟩
theorem s_isSq11 {d : Nat} {h : sHp} {p : Nat} {c : CF} {W H : Nat} {v : Int32} (hd : 1 ≤ d) (F : FC h p c) (g : gdF c W H) : sDo d 22 [.ref p, .int v] h (fun r h' => h' = h ∧ ((0 ≤ v.toInt ∧ v.toInt < ((W * H : Nat) : Int)) ∧ r = some (.int 1) ∨ ¬ (0 ≤ v.toInt ∧ v.toInt < ((W * H : Nat) : Int)) ∧ r = some (.int 0))) := by
  have gd := g
  obtain ⟨gw, gh, w2, w8, h2, h8, g2, g3, g4, g5, g6⟩ := gd
  have hn := gdF_n g
  have hw0 : (c.1 0).toInt = ((W : Nat) : Int) := by rw [gw]; exact ofN_toInt (by omega)
  have hw1 : (c.1 1).toInt = ((H : Nat) : Int) := by rw [gh]; exact ofN_toInt (by omega)
  have hwn : (c.1 0 * c.1 1).toInt = ((W * H : Nat) : Int) := n_mul hw0 hw1 (by omega)
  refine sDo_of1 (nL := 2) (L := [some (.ref p), some (.int v)]) hd rfl rfl ?_
  refine g_iload_n (i := 1) rfl rfl ?_
  have k_2 : (0 : Int32).toInt = 0 := rfl
  refine g_if_lt 21 rfl rfl (fun c_1 => ?_) (fun c_1 => ?_)
  · skip
    rw [i_lt, k_2] at c_1
    refine g_iconst (n := 0) rfl ?_
    refine g_ireturn (ty := .boolean) rfl rfl (by decide) ?_
    exact ⟨rfl, Or.inr ⟨by omega, rfl⟩⟩
  · skip
    rw [i_lt, k_2] at c_1
    refine g_iload_n (i := 1) rfl rfl ?_
    refine g_aload_n (i := 0) rfl rfl ?_
    refine g_getfield (v := .int (c.1 0)) rfl F.1 (by decide) rfl ?_
    refine g_aload_n (i := 0) rfl rfl ?_
    refine g_getfield (v := .int (c.1 1)) rfl F.1 (by decide) rfl ?_
    refine g_imul rfl ?_
    refine g_icmp_ge 21 rfl rfl (fun c_3 => ?_) (fun c_3 => ?_)
    · skip
      rw [i_le, hwn] at c_3
      refine g_iconst (n := 0) rfl ?_
      refine g_ireturn (ty := .boolean) rfl rfl (by decide) ?_
      exact ⟨rfl, Or.inr ⟨by omega, rfl⟩⟩
    · skip
      rw [i_le, hwn] at c_3
      refine g_iconst (n := 1) rfl ?_
      refine g_goto 22 rfl rfl ?_
      refine g_ireturn (ty := .boolean) rfl rfl (by decide) ?_
      exact ⟨rfl, Or.inl ⟨by omega, rfl⟩⟩
theorem s_mayStand {d : Nat} {h : sHp} {ik tf : Int32} {c : CF} {W H : Nat} {x v : Int32} (hd : 2 ≤ d) (h0 : h[0]? = some (cO ik tf)) (F : FC h 5 c) (g : gdF c W H) : sDo d 167 [.ref 0, .int x, .int v] h (fun r h' => h' = h ∧ (okPl (W * H) x.toInt v.toInt ∧ r = some (.int 1) ∨ ¬ okPl (W * H) x.toInt v.toInt ∧ r = some (.int 0))) := by
  unfold okPl
  refine sDo_of1 (nL := 3) (L := [some (.ref 0), some (.int x), some (.int v)]) (by omega) rfl rfl ?_
  refine g_iload_n (i := 1) rfl rfl ?_
  rcases (show x.toInt = 0 ∨ x.toInt = 1 ∨ x.toInt = 2 ∨ x.toInt = 3 ∨ (x.toInt < 0 ∨ 3 < x.toInt) by omega) with hs | hs | hs | hs | hs
  · skip
    refine g_tsIn 0 32 rfl (by omega) (by rw [hs]; rfl) rfl rfl ?_
    refine g_iload_n (i := 2) rfl rfl ?_
    have k_2 : (0 : Int32).toInt = 0 := rfl
    refine g_if_lt 45 rfl rfl (fun c_1 => ?_) (fun c_1 => ?_)
    · skip
      rw [i_lt, k_2] at c_1
      refine g_iconst (n := 0) rfl ?_
      refine g_ireturn (ty := .boolean) rfl rfl (by decide) ?_
      exact ⟨rfl, Or.inr ⟨by omega, rfl⟩⟩
    · skip
      rw [i_lt, k_2] at c_1
      refine g_iload_n (i := 2) rfl rfl ?_
      refine g_iconst (n := 3) rfl ?_
      have k_4 : (Int32.ofInt 3).toInt = 3 := rfl
      refine g_icmp_gt 45 rfl rfl (fun c_3 => ?_) (fun c_3 => ?_)
      · skip
        rw [i_lt, k_4] at c_3
        refine g_iconst (n := 0) rfl ?_
        refine g_ireturn (ty := .boolean) rfl rfl (by decide) ?_
        exact ⟨rfl, Or.inr ⟨by omega, rfl⟩⟩
      · skip
        rw [i_lt, k_4] at c_3
        refine g_iconst (n := 1) rfl ?_
        refine g_goto 46 rfl rfl ?_
        refine g_ireturn (ty := .boolean) rfl rfl (by decide) ?_
        exact ⟨rfl, Or.inl ⟨by omega, rfl⟩⟩
  · skip
    refine g_tsIn 1 47 rfl (by omega) (by rw [hs]; rfl) rfl rfl ?_
    refine g_iload_n (i := 2) rfl rfl ?_
    refine g_iconst (n := (-1)) rfl ?_
    have k_6 : (Int32.ofInt (-1)).toInt = (-1) := rfl
    refine g_icmp_eq 63 rfl rfl (fun c_5 => ?_) (fun c_5 => ?_)
    · skip
      rw [i_eq, k_6] at c_5
      refine g_iconst (n := 1) rfl ?_
      refine g_goto 68 rfl rfl ?_
      refine g_ireturn (ty := .boolean) rfl rfl (by decide) ?_
      exact ⟨rfl, Or.inl ⟨by omega, rfl⟩⟩
    · skip
      rw [i_eq, k_6] at c_5
      refine g_aload_n (i := 0) rfl rfl ?_
      refine g_getfield (v := .ref 5) rfl h0 (by decide) rfl ?_
      refine g_iload_n (i := 2) rfl rfl ?_
      refine g_virt1 (Qc := fun r h' => h' = h ∧ (((0 ≤ v.toInt ∧ v.toInt < ((W * H : Nat) : Int)) ∧ r = some (.int 1)) ∨ (¬ (0 ≤ v.toInt ∧ v.toInt < ((W * H : Nat) : Int)) ∧ r = some (.int 0)))) rfl (by decide) rfl F.1 rfl (Nat.le_of_ble_eq_true rfl) (s_isSq11 (by omega) F g) (fun r h hq9 => ?_)
      obtain ⟨rfl, ⟨c_7, rfl⟩ | ⟨c_7, rfl⟩⟩ := hq9
      · skip
        refine g_if_eq 67 rfl rfl (fun hc => absurd hc (by decide)) (fun _ => ?_)
        refine g_iconst (n := 1) rfl ?_
        refine g_goto 68 rfl rfl ?_
        refine g_ireturn (ty := .boolean) rfl rfl (by decide) ?_
        exact ⟨rfl, Or.inl ⟨by omega, rfl⟩⟩
      · skip
        refine g_if_eq 67 rfl rfl (fun _ => ?_) (fun hc => absurd hc (by decide))
        refine g_iconst (n := 0) rfl ?_
        refine g_ireturn (ty := .boolean) rfl rfl (by decide) ?_
        exact ⟨rfl, Or.inr ⟨by omega, rfl⟩⟩
  · skip
    refine g_tsIn 2 47 rfl (by omega) (by rw [hs]; rfl) rfl rfl ?_
    refine g_iload_n (i := 2) rfl rfl ?_
    refine g_iconst (n := (-1)) rfl ?_
    have k_9 : (Int32.ofInt (-1)).toInt = (-1) := rfl
    refine g_icmp_eq 63 rfl rfl (fun c_8 => ?_) (fun c_8 => ?_)
    · skip
      rw [i_eq, k_9] at c_8
      refine g_iconst (n := 1) rfl ?_
      refine g_goto 68 rfl rfl ?_
      refine g_ireturn (ty := .boolean) rfl rfl (by decide) ?_
      exact ⟨rfl, Or.inl ⟨by omega, rfl⟩⟩
    · skip
      rw [i_eq, k_9] at c_8
      refine g_aload_n (i := 0) rfl rfl ?_
      refine g_getfield (v := .ref 5) rfl h0 (by decide) rfl ?_
      refine g_iload_n (i := 2) rfl rfl ?_
      refine g_virt1 (Qc := fun r h' => h' = h ∧ (((0 ≤ v.toInt ∧ v.toInt < ((W * H : Nat) : Int)) ∧ r = some (.int 1)) ∨ (¬ (0 ≤ v.toInt ∧ v.toInt < ((W * H : Nat) : Int)) ∧ r = some (.int 0)))) rfl (by decide) rfl F.1 rfl (Nat.le_of_ble_eq_true rfl) (s_isSq11 (by omega) F g) (fun r h hq9 => ?_)
      obtain ⟨rfl, ⟨c_10, rfl⟩ | ⟨c_10, rfl⟩⟩ := hq9
      · skip
        refine g_if_eq 67 rfl rfl (fun hc => absurd hc (by decide)) (fun _ => ?_)
        refine g_iconst (n := 1) rfl ?_
        refine g_goto 68 rfl rfl ?_
        refine g_ireturn (ty := .boolean) rfl rfl (by decide) ?_
        exact ⟨rfl, Or.inl ⟨by omega, rfl⟩⟩
      · skip
        refine g_if_eq 67 rfl rfl (fun _ => ?_) (fun hc => absurd hc (by decide))
        refine g_iconst (n := 0) rfl ?_
        refine g_ireturn (ty := .boolean) rfl rfl (by decide) ?_
        exact ⟨rfl, Or.inr ⟨by omega, rfl⟩⟩
  · skip
    refine g_tsIn 3 69 rfl (by omega) (by rw [hs]; rfl) rfl rfl ?_
    refine g_iload_n (i := 2) rfl rfl ?_
    have k_12 : (0 : Int32).toInt = 0 := rfl
    refine g_if_lt 83 rfl rfl (fun c_11 => ?_) (fun c_11 => ?_)
    · skip
      rw [i_lt, k_12] at c_11
      refine g_iconst (n := 0) rfl ?_
      refine g_ireturn (ty := .boolean) rfl rfl (by decide) ?_
      exact ⟨rfl, Or.inr ⟨by omega, rfl⟩⟩
    · skip
      rw [i_lt, k_12] at c_11
      refine g_iload_n (i := 2) rfl rfl ?_
      refine g_bipush (n := 20) rfl ?_
      have k_14 : ((Int8.ofInt 20).toInt32).toInt = 20 := rfl
      refine g_icmp_gt 83 rfl rfl (fun c_13 => ?_) (fun c_13 => ?_)
      · skip
        rw [i_lt, k_14] at c_13
        refine g_iconst (n := 0) rfl ?_
        refine g_ireturn (ty := .boolean) rfl rfl (by decide) ?_
        exact ⟨rfl, Or.inr ⟨by omega, rfl⟩⟩
      · skip
        rw [i_lt, k_14] at c_13
        refine g_iconst (n := 1) rfl ?_
        refine g_goto 84 rfl rfl ?_
        refine g_ireturn (ty := .boolean) rfl rfl (by decide) ?_
        exact ⟨rfl, Or.inl ⟨by omega, rfl⟩⟩
  · skip
    refine g_tsOut 85 rfl (by omega) rfl ?_
    refine g_iconst (n := 0) rfl ?_
    refine g_ireturn (ty := .boolean) rfl rfl (by decide) ?_
    exact ⟨rfl, Or.inr ⟨by omega, rfl⟩⟩
theorem s_placeOf {d : Nat} {h : sHp} {p K : Nat} {c : CF} {x : Int32} (hd : 1 ≤ d) (F : FC h p c) (hK : K ≤ 3) (hx : x.toInt = K) : sDo d 34 [.ref p, .int x] h (fun r h' => h' = h ∧ r = some (.int (c.1 (7 + K)))) := by
  refine sDo_of1 (nL := 2) (L := [some (.ref p), some (.int x)]) hd rfl rfl ?_
  refine g_iload_n (i := 1) rfl rfl ?_
  rcases (show K = 0 ∨ K = 1 ∨ K = 2 ∨ K = 3 by omega) with rfl | rfl | rfl | rfl
  · skip
    refine g_tsIn 0 28 rfl (by omega) (by rw [hx]; rfl) rfl rfl ?_
    refine g_aload_n (i := 0) rfl rfl ?_
    refine g_getfield (v := .int (c.1 7)) rfl F.1 (by decide) rfl ?_
    refine g_ireturn (ty := .int) rfl rfl rfl ?_
    exact ⟨rfl, rfl⟩
  · skip
    refine g_tsIn 1 33 rfl (by omega) (by rw [hx]; rfl) rfl rfl ?_
    refine g_aload_n (i := 0) rfl rfl ?_
    refine g_getfield (v := .int (c.1 8)) rfl F.1 (by decide) rfl ?_
    refine g_ireturn (ty := .int) rfl rfl rfl ?_
    exact ⟨rfl, rfl⟩
  · skip
    refine g_tsIn 2 38 rfl (by omega) (by rw [hx]; rfl) rfl rfl ?_
    refine g_aload_n (i := 0) rfl rfl ?_
    refine g_getfield (v := .int (c.1 9)) rfl F.1 (by decide) rfl ?_
    refine g_ireturn (ty := .int) rfl rfl rfl ?_
    exact ⟨rfl, rfl⟩
  · skip
    refine g_tsOut 43 rfl (by omega) rfl ?_
    refine g_aload_n (i := 0) rfl rfl ?_
    refine g_getfield (v := .int (c.1 10)) rfl F.1 (by decide) rfl ?_
    refine g_ireturn (ty := .int) rfl rfl rfl ?_
    exact ⟨rfl, rfl⟩
theorem s_place11 {d : Nat} {h : sHp} {ik tf : Int32} {R : Nat → Int32} {c : CF} {W H : Nat} {x v : Int32} (hd : 4 ≤ d) (h0 : h[0]? = some (cO ik tf)) (hR : h[43]? = some (rFc R)) (F : FC h 5 c) (g : gdF c W H) : sDo d 126 [.ref 0, .int x, .int v] h (fun r h' => (∃ K : Nat, K ≤ 3 ∧ x.toInt = K ∧ okPl (W * H) x.toInt v.toInt ∧ r = some (.int (c.1 (7 + K))) ∧ h' = h.set 5 (fO 5 (upd c.1 (7 + K) v) c.2.1)) ∨ (¬ okPl (W * H) x.toInt v.toInt ∧ r = some (.int (-16)) ∧ h' = h.set 43 (rFc (bump R 6)))) := by
  refine sDo_of1 (nL := 4) (L := [some (.ref 0), some (.int x), some (.int v), none]) (by omega) rfl rfl ?_
  refine g_aload_n (i := 0) rfl rfl ?_
  refine g_iload_n (i := 1) rfl rfl ?_
  refine g_iload_n (i := 2) rfl rfl ?_
  refine g_virt2 (Qc := fun r h' => h' = h ∧ (((okPl (W * H) x.toInt v.toInt) ∧ r = some (.int 1)) ∨ (¬ (okPl (W * H) x.toInt v.toInt) ∧ r = some (.int 0)))) rfl (by decide) rfl h0 rfl (Nat.le_of_ble_eq_true rfl) (s_mayStand (by omega) h0 F g) (fun r h hq9 => ?_)
  obtain ⟨rfl, ⟨c_1, rfl⟩ | ⟨c_1, rfl⟩⟩ := hq9
  · skip
    obtain ⟨K, hK, hx⟩ : ∃ K : Nat, K ≤ 3 ∧ x.toInt = K := by
      unfold okPl at c_1
      exact ⟨x.toInt.toNat, by omega, by omega⟩
    refine g_if_ne 18 rfl rfl (fun _ => ?_) (fun hc => absurd hc (by decide))
    refine g_aload_n (i := 0) rfl rfl ?_
    refine g_getfield (v := .ref 5) rfl h0 (by decide) rfl ?_
    refine g_iload_n (i := 1) rfl rfl ?_
    refine g_virt1 (Qc := fun r h' => h' = h ∧ r = some (.int (c.1 (7 + K)))) rfl (by decide) rfl F.1 rfl (Nat.le_of_ble_eq_true rfl) (s_placeOf (by omega) F hK hx) (fun r h hq9 => ?_)
    obtain ⟨rfl, rfl⟩ := hq9
    refine g_istore_n (i := 3) (L1 := [some (.ref 0), some (.int x), some (.int v), some (.int (c.1 (7 + K)))]) rfl (Nat.le_of_ble_eq_true rfl) rfl ?_
    refine g_aload_n (i := 0) rfl rfl ?_
    refine g_getfield (v := .ref 5) rfl h0 (by decide) rfl ?_
    refine g_iload_n (i := 1) rfl rfl ?_
    refine g_iload_n (i := 2) rfl rfl ?_
    refine g_virt2 (Qc := fun r h' => r = none ∧ h' = h.set 5 (fO 5 (upd c.1 (7 + K) v) c.2.1)) rfl (by decide) rfl F.1 rfl (Nat.le_of_ble_eq_true rfl) (sDo_up (d := 1) (by omega) (s_setPlace (d := 0) F hK hx)) (fun r h9 hq9 => ?_)
    obtain ⟨rfl, rfl⟩ := hq9
    refine g_iload_n (i := 3) rfl rfl ?_
    refine g_ireturn (ty := .int) rfl rfl rfl ?_
    exact Or.inl ⟨K, hK, hx, c_1, rfl, rfl⟩
  · skip
    refine g_if_ne 18 rfl rfl (fun hc => absurd hc (by decide)) (fun _ => ?_)
    refine g_aload_n (i := 0) rfl rfl ?_
    refine g_bipush (n := (-6)) rfl ?_
    refine g_bipush (n := (-16)) rfl ?_
    refine g_virt2 (Qc := fun r h' => r = some (.int (-16)) ∧ h' = h.set 43 (rFc (bump R 6))) rfl (by decide) rfl h0 rfl (Nat.le_of_ble_eq_true rfl) (s_refA2 (X := 6) (by omega) h0 hR rfl (by decide)) (fun r h9 hq9 => ?_)
    obtain ⟨rfl, rfl⟩ := hq9
    refine g_ireturn (ty := .int) rfl rfl rfl ?_
    exact Or.inr ⟨c_1, rfl, rfl⟩
theorem s_heir11 {d : Nat} {h : sHp} {ik tf : Int32} {R : Nat → Int32} {c : CF} {N : Nat} {x : Int32} (hd : 3 ≤ d) (h0 : h[0]? = some (cO ik tf)) (hR : h[43]? = some (rFc R)) (F : FC h 5 c) (hI : c.1 11 = Int32.ofNat N) (hN : N ≤ 5) : sDo d 127 [.ref 0, .int x] h (fun r h' => ((1 ≤ x.toInt ∧ x.toInt ≤ 9) ∧ N < 5 ∧ r = some (.int (Int32.ofNat N)) ∧ FC h' 5 (cfHeir N x c) ∧ fE 5 h h') ∨ ((1 ≤ x.toInt ∧ x.toInt ≤ 9) ∧ N = 5 ∧ r = some (.int (-7)) ∧ h' = h.set 43 (rFc (bump R 7))) ∨ (¬ (1 ≤ x.toInt ∧ x.toInt ≤ 9) ∧ r = some (.int (-6)) ∧ h' = h.set 43 (rFc (bump R 6)))) := by
  have e11 : (c.1 11).toInt = ((N : Nat) : Int) := by rw [hI]; exact ofN_toInt (by omega)
  refine sDo_of1 (nL := 2) (L := [some (.ref 0), some (.int x)]) (by omega) rfl rfl ?_
  refine g_iload_n (i := 1) rfl rfl ?_
  refine g_iconst (n := 1) rfl ?_
  have k_2 : (Int32.ofInt 1).toInt = 1 := rfl
  refine g_icmp_lt 11 rfl rfl (fun c_1 => ?_) (fun c_1 => ?_)
  · skip
    rw [i_lt, k_2] at c_1
    refine g_aload_n (i := 0) rfl rfl ?_
    refine g_bipush (n := (-6)) rfl ?_
    refine g_virt1 (Qc := fun r h' => r = some (.int ((Int8.ofInt (-6)).toInt32)) ∧ h' = h.set 43 (rFc (bump R 6))) rfl (by decide) rfl h0 rfl (Nat.le_of_ble_eq_true rfl) (s_refuse2 (X := 6) (by omega) h0 hR rfl (by decide)) (fun r h9 hq9 => ?_)
    obtain ⟨rfl, rfl⟩ := hq9
    refine g_ireturn (ty := .int) rfl rfl rfl ?_
    exact Or.inr (Or.inr ⟨by omega, rfl, rfl⟩)
  · skip
    rw [i_lt, k_2] at c_1
    refine g_iload_n (i := 1) rfl rfl ?_
    refine g_bipush (n := 9) rfl ?_
    have k_4 : ((Int8.ofInt 9).toInt32).toInt = 9 := rfl
    refine g_icmp_le 18 rfl rfl (fun c_3 => ?_) (fun c_3 => ?_)
    · skip
      rw [i_le, k_4] at c_3
      refine g_aload_n (i := 0) rfl rfl ?_
      refine g_getfield (v := .ref 5) rfl h0 (by decide) rfl ?_
      refine g_getfield (v := .int (c.1 11)) rfl F.1 (by decide) rfl ?_
      refine g_iconst (n := 5) rfl ?_
      have k_6 : (Int32.ofInt 5).toInt = 5 := rfl
      refine g_icmp_lt 36 rfl rfl (fun c_5 => ?_) (fun c_5 => ?_)
      · skip
        rw [i_lt, e11, k_6] at c_5
        refine g_aload_n (i := 0) rfl rfl ?_
        refine g_getfield (v := .ref 5) rfl h0 (by decide) rfl ?_
        refine g_iload_n (i := 1) rfl rfl ?_
        refine g_virt1 (Qc := fun r h' => r = some (.int (Int32.ofNat N)) ∧ FC h' 5 (cfHeir N x c) ∧ fE 5 h h') rfl (by decide) rfl F.1 rfl (Nat.le_of_ble_eq_true rfl) (sDo_up (d := 1) (by omega) (s_addHeir (d := 0) F hI (by omega))) (fun r h9 hq9 => ?_)
        obtain ⟨rfl, q1, q2⟩ := hq9
        refine g_ireturn (ty := .int) rfl rfl rfl ?_
        exact Or.inl ⟨by omega, by omega, rfl, q1, q2⟩
      · skip
        rw [i_lt, e11, k_6] at c_5
        refine g_aload_n (i := 0) rfl rfl ?_
        refine g_bipush (n := (-7)) rfl ?_
        refine g_virt1 (Qc := fun r h' => r = some (.int ((Int8.ofInt (-7)).toInt32)) ∧ h' = h.set 43 (rFc (bump R 7))) rfl (by decide) rfl h0 rfl (Nat.le_of_ble_eq_true rfl) (s_refuse2 (X := 7) (by omega) h0 hR rfl (by decide)) (fun r h9 hq9 => ?_)
        obtain ⟨rfl, rfl⟩ := hq9
        refine g_ireturn (ty := .int) rfl rfl rfl ?_
        exact Or.inr (Or.inl ⟨by omega, by omega, rfl, rfl⟩)
    · skip
      rw [i_le, k_4] at c_3
      refine g_aload_n (i := 0) rfl rfl ?_
      refine g_bipush (n := (-6)) rfl ?_
      refine g_virt1 (Qc := fun r h' => r = some (.int ((Int8.ofInt (-6)).toInt32)) ∧ h' = h.set 43 (rFc (bump R 6))) rfl (by decide) rfl h0 rfl (Nat.le_of_ble_eq_true rfl) (s_refuse2 (X := 6) (by omega) h0 hR rfl (by decide)) (fun r h9 hq9 => ?_)
      obtain ⟨rfl, rfl⟩ := hq9
      refine g_ireturn (ty := .int) rfl rfl rfl ?_
      exact Or.inr (Or.inr ⟨by omega, rfl, rfl⟩)
theorem s_image11 {d : Nat} {h : sHp} {ik tf : Int32} {c : CF} {ck : CF} (hd : 2 ≤ d) (h0 : h[0]? = some (cO ik tf)) (F : FC h 5 c) (Fk : FC h 16 ck) (fb : ∀ k, k < 5 → c.2.2.2.2.2.1 k = 0 ∨ c.2.2.2.2.2.1 k = 1) : sDo d 154 [.ref 0] h (fun r h' => r = some (.int (c.1 11)) ∧ FC h' 5 c ∧ FC h' 16 (cfBecome c ck) ∧ h'[0]? = some (cO 1 tf) ∧ h'.length = h.length ∧ ∀ q, 27 ≤ q → h'[q]? = h[q]?) := by
  refine sDo_of1 (nL := 1) (L := [some (.ref 0)]) (by omega) rfl rfl ?_
  refine g_aload_n (i := 0) rfl rfl ?_
  refine g_getfield (v := .ref 16) rfl h0 (by decide) rfl ?_
  refine g_aload_n (i := 0) rfl rfl ?_
  refine g_getfield (v := .ref 5) rfl h0 (by decide) rfl ?_
  refine g_virt1 (Qc := fun r h' => r = none ∧ FC h' 16 (cfBecome c ck) ∧ fE 16 h h') rfl (by decide) rfl Fk.1 rfl (Nat.le_of_ble_eq_true rfl) (sDo_up (d := 1) (by omega) (s_become (d := 0) Fk F (by omega) fb)) (fun r h9 hq9 => ?_)
  obtain ⟨rfl, q1, q2⟩ := hq9
  have F5 := FC_fr F q2 (by omega)
  have h0' := (q2.2 0 (by omega)).trans h0
  refine g_aload_n (i := 0) rfl rfl ?_
  refine g_iconst (n := 1) rfl ?_
  refine g_putfield (h1 := h9.set 0 (cO 1 tf)) rfl h0' (by decide) (Nat.le_of_ble_eq_true rfl) rfl rfl ?_
  have F6 := FC_out (q := 0) (x := cO 1 tf) F5 (by omega)
  have F7 := FC_out (q := 0) (x := cO 1 tf) q1 (by omega)
  have h02 : (h9.set 0 (cO 1 tf))[0]? = some (cO 1 tf) := s_set_eq h0'
  refine g_aload_n (i := 0) rfl rfl ?_
  refine g_getfield (v := .ref 5) rfl h02 (by decide) rfl ?_
  refine g_getfield (v := .int (c.1 11)) rfl F6.1 (by decide) rfl ?_
  refine g_ireturn (ty := .int) rfl rfl rfl ?_
  exact ⟨rfl, F6, F7, h02, by rw [List.length_set]; exact q2.1, fun q hq => by rw [s_set_ne (by omega)]; exact q2.2 q (by omega)⟩
theorem s_restore11 {d : Nat} {h : sHp} {ik tf : Int32} {R : Nat → Int32} {c : CF} {ck : CF} (hd : 3 ≤ d) (h0 : h[0]? = some (cO ik tf)) (hR : h[43]? = some (rFc R)) (F : FC h 5 c) (Fk : FC h 16 ck) (fb : ∀ k, k < 5 → ck.2.2.2.2.2.1 k = 0 ∨ ck.2.2.2.2.2.1 k = 1) : sDo d 155 [.ref 0] h (fun r h' => (¬ ik = 0 ∧ r = some (.int ((cfBecome ck c).1 11)) ∧ FC h' 5 (cfBecome ck c) ∧ fE 5 h h') ∨ (ik = 0 ∧ r = some (.int (-6)) ∧ h' = h.set 43 (rFc (bump R 6)))) := by
  refine sDo_of1 (nL := 1) (L := [some (.ref 0)]) (by omega) rfl rfl ?_
  refine g_aload_n (i := 0) rfl rfl ?_
  refine g_getfield (v := .int ik) rfl h0 (by decide) rfl ?_
  refine g_if_ne 14 rfl rfl (fun c_1 => ?_) (fun c_1 => ?_)
  · skip
    refine g_aload_n (i := 0) rfl rfl ?_
    refine g_getfield (v := .ref 5) rfl h0 (by decide) rfl ?_
    refine g_aload_n (i := 0) rfl rfl ?_
    refine g_getfield (v := .ref 16) rfl h0 (by decide) rfl ?_
    refine g_virt1 (Qc := fun r h' => r = none ∧ FC h' 5 (cfBecome ck c) ∧ fE 5 h h') rfl (by decide) rfl F.1 rfl (Nat.le_of_ble_eq_true rfl) (sDo_up (d := 1) (by omega) (s_become (d := 0) F Fk (by omega) fb)) (fun r h9 hq9 => ?_)
    obtain ⟨rfl, q1, q2⟩ := hq9
    have h0' := (q2.2 0 (by omega)).trans h0
    refine g_aload_n (i := 0) rfl rfl ?_
    refine g_getfield (v := .ref 5) rfl h0' (by decide) rfl ?_
    refine g_getfield (v := .int ((cfBecome ck c).1 11)) rfl q1.1 (by decide) rfl ?_
    refine g_ireturn (ty := .int) rfl rfl rfl ?_
    exact Or.inl ⟨c_1, rfl, q1, q2⟩
  · skip
    refine g_aload_n (i := 0) rfl rfl ?_
    refine g_bipush (n := (-6)) rfl ?_
    refine g_virt1 (Qc := fun r h' => r = some (.int ((Int8.ofInt (-6)).toInt32)) ∧ h' = h.set 43 (rFc (bump R 6))) rfl (by decide) rfl h0 rfl (Nat.le_of_ble_eq_true rfl) (s_refuse2 (X := 6) (by omega) h0 hR rfl (by decide)) (fun r h9 hq9 => ?_)
    obtain ⟨rfl, rfl⟩ := hq9
    refine g_ireturn (ty := .int) rfl rfl rfl ?_
    exact Or.inr ⟨c_1, rfl, rfl⟩
theorem s_isSq12 {d : Nat} {h : sHp} {J : Nat → Int32} {W H : Nat} {v : Int32} (hd : 1 ≤ d) (hr : h[60]? = some (mO J)) (g : gdM J W H) : sDo d 172 [.ref 60, .int v] h (fun r h' => h' = h ∧ ((0 ≤ v.toInt ∧ v.toInt < ((W * H : Nat) : Int)) ∧ r = some (.int 1) ∨ ¬ (0 ≤ v.toInt ∧ v.toInt < ((W * H : Nat) : Int)) ∧ r = some (.int 0))) := by
  have gd := g
  obtain ⟨gw, gh, w2, w8, h2, h8⟩ := gd
  have hn := gdM_n g
  have hw0 : (J 0).toInt = ((W : Nat) : Int) := by rw [gw]; exact ofN_toInt (by omega)
  have hw1 : (J 1).toInt = ((H : Nat) : Int) := by rw [gh]; exact ofN_toInt (by omega)
  have hwn : (J 0 * J 1).toInt = ((W * H : Nat) : Int) := n_mul hw0 hw1 (by omega)
  refine sDo_of1 (nL := 2) (L := [some (.ref 60), some (.int v)]) hd rfl rfl ?_
  refine g_iload_n (i := 1) rfl rfl ?_
  have k_2 : (0 : Int32).toInt = 0 := rfl
  refine g_if_lt 21 rfl rfl (fun c_1 => ?_) (fun c_1 => ?_)
  · skip
    rw [i_lt, k_2] at c_1
    refine g_iconst (n := 0) rfl ?_
    refine g_ireturn (ty := .boolean) rfl rfl (by decide) ?_
    exact ⟨rfl, Or.inr ⟨by omega, rfl⟩⟩
  · skip
    rw [i_lt, k_2] at c_1
    refine g_iload_n (i := 1) rfl rfl ?_
    refine g_aload_n (i := 0) rfl rfl ?_
    refine g_getfield (v := .int (J 0)) rfl hr (by decide) rfl ?_
    refine g_aload_n (i := 0) rfl rfl ?_
    refine g_getfield (v := .int (J 1)) rfl hr (by decide) rfl ?_
    refine g_imul rfl ?_
    refine g_icmp_ge 21 rfl rfl (fun c_3 => ?_) (fun c_3 => ?_)
    · skip
      rw [i_le, hwn] at c_3
      refine g_iconst (n := 0) rfl ?_
      refine g_ireturn (ty := .boolean) rfl rfl (by decide) ?_
      exact ⟨rfl, Or.inr ⟨by omega, rfl⟩⟩
    · skip
      rw [i_le, hwn] at c_3
      refine g_iconst (n := 1) rfl ?_
      refine g_goto 22 rfl rfl ?_
      refine g_ireturn (ty := .boolean) rfl rfl (by decide) ?_
      exact ⟨rfl, Or.inl ⟨by omega, rfl⟩⟩
theorem s_place12 {d : Nat} {h : sHp} {m : MF} {R : Nat → Int32} {W H : Nat} {x v : Int32} (hd : 2 ≤ d) (M : MC h m) (hR : h[61]? = some (rFc R)) (g : gdM m.1 W H) : sDo d 206 [.ref 60, .int x, .int v] h (fun r h' => (∃ K : Nat, K ≤ 3 ∧ x.toInt = K ∧ okPl (W * H) x.toInt v.toInt ∧ r = some (.int (m.1 (2 + K))) ∧ h' = h.set 60 (mO (upd m.1 (2 + K) v))) ∨ (¬ okPl (W * H) x.toInt v.toInt ∧ r = some (.int (-16)) ∧ h' = h.set 61 (rFc (bump R 6)))) := by
  unfold okPl
  refine sDo_of1 (nL := 4) (L := [some (.ref 60), some (.int x), some (.int v), none]) (by omega) rfl rfl ?_
  refine g_iload_n (i := 1) rfl rfl ?_
  have k_2 : (0 : Int32).toInt = 0 := rfl
  refine g_if_ne 26 rfl rfl (fun c_1 => ?_) (fun c_1 => ?_)
  · skip
    rw [i_eq, k_2] at c_1
    refine g_iload_n (i := 1) rfl rfl ?_
    refine g_iconst (n := 1) rfl ?_
    have k_4 : (Int32.ofInt 1).toInt = 1 := rfl
    refine g_icmp_ne 57 rfl rfl (fun c_3 => ?_) (fun c_3 => ?_)
    · skip
      rw [i_eq, k_4] at c_3
      refine g_iload_n (i := 1) rfl rfl ?_
      refine g_iconst (n := 2) rfl ?_
      have k_6 : (Int32.ofInt 2).toInt = 2 := rfl
      refine g_icmp_ne 88 rfl rfl (fun c_5 => ?_) (fun c_5 => ?_)
      · skip
        rw [i_eq, k_6] at c_5
        refine g_iload_n (i := 1) rfl rfl ?_
        refine g_iconst (n := 3) rfl ?_
        have k_8 : (Int32.ofInt 3).toInt = 3 := rfl
        refine g_icmp_ne 116 rfl rfl (fun c_7 => ?_) (fun c_7 => ?_)
        · skip
          rw [i_eq, k_8] at c_7
          refine g_aload_n (i := 0) rfl rfl ?_
          refine g_bipush (n := (-6)) rfl ?_
          refine g_virt1 (Qc := fun r h' => r = some (.int (-16)) ∧ h' = h.set 61 (rFc (bump R 6))) rfl (by decide) rfl M.1 rfl (Nat.le_of_ble_eq_true rfl) (s_noTen2 (X := 6) (by omega) M.1 hR rfl (by decide)) (fun r h9 hq9 => ?_)
          obtain ⟨rfl, rfl⟩ := hq9
          refine g_ireturn (ty := .int) rfl rfl rfl ?_
          exact Or.inr ⟨by omega, rfl, rfl⟩
        · skip
          rw [i_eq, k_8] at c_7
          refine g_iload_n (i := 2) rfl rfl ?_
          refine g_if_lt 116 rfl rfl (fun c_9 => ?_) (fun c_9 => ?_)
          · skip
            rw [i_lt, k_2] at c_9
            refine g_aload_n (i := 0) rfl rfl ?_
            refine g_bipush (n := (-6)) rfl ?_
            refine g_virt1 (Qc := fun r h' => r = some (.int (-16)) ∧ h' = h.set 61 (rFc (bump R 6))) rfl (by decide) rfl M.1 rfl (Nat.le_of_ble_eq_true rfl) (s_noTen2 (X := 6) (by omega) M.1 hR rfl (by decide)) (fun r h9 hq9 => ?_)
            obtain ⟨rfl, rfl⟩ := hq9
            refine g_ireturn (ty := .int) rfl rfl rfl ?_
            exact Or.inr ⟨by omega, rfl, rfl⟩
          · skip
            rw [i_lt, k_2] at c_9
            refine g_iload_n (i := 2) rfl rfl ?_
            refine g_bipush (n := 20) rfl ?_
            have k_11 : ((Int8.ofInt 20).toInt32).toInt = 20 := rfl
            refine g_icmp_gt 116 rfl rfl (fun c_10 => ?_) (fun c_10 => ?_)
            · skip
              rw [i_lt, k_11] at c_10
              refine g_aload_n (i := 0) rfl rfl ?_
              refine g_bipush (n := (-6)) rfl ?_
              refine g_virt1 (Qc := fun r h' => r = some (.int (-16)) ∧ h' = h.set 61 (rFc (bump R 6))) rfl (by decide) rfl M.1 rfl (Nat.le_of_ble_eq_true rfl) (s_noTen2 (X := 6) (by omega) M.1 hR rfl (by decide)) (fun r h9 hq9 => ?_)
              obtain ⟨rfl, rfl⟩ := hq9
              refine g_ireturn (ty := .int) rfl rfl rfl ?_
              exact Or.inr ⟨by omega, rfl, rfl⟩
            · skip
              rw [i_lt, k_11] at c_10
              refine g_aload_n (i := 0) rfl rfl ?_
              refine g_getfield (v := .int (m.1 5)) rfl M.1 (by decide) rfl ?_
              refine g_istore_n (i := 3) (L1 := [some (.ref 60), some (.int x), some (.int v), some (.int (m.1 5))]) rfl (Nat.le_of_ble_eq_true rfl) rfl ?_
              refine g_aload_n (i := 0) rfl rfl ?_
              refine g_iload_n (i := 2) rfl rfl ?_
              refine g_putfield (h1 := h.set 60 (mO (upd m.1 (2 + 3) v))) rfl M.1 (by decide) (Nat.le_of_ble_eq_true rfl) rfl rfl ?_
              refine g_goto 123 rfl rfl ?_
              refine g_iload_n (i := 3) rfl rfl ?_
              refine g_ireturn (ty := .int) rfl rfl rfl ?_
              exact Or.inl ⟨3, by omega, by omega, by omega, rfl, rfl⟩
      · skip
        rw [i_eq, k_6] at c_5
        refine g_iload_n (i := 2) rfl rfl ?_
        refine g_iconst (n := (-1)) rfl ?_
        have k_13 : (Int32.ofInt (-1)).toInt = (-1) := rfl
        refine g_icmp_eq 75 rfl rfl (fun c_12 => ?_) (fun c_12 => ?_)
        · skip
          rw [i_eq, k_13] at c_12
          refine g_aload_n (i := 0) rfl rfl ?_
          refine g_getfield (v := .int (m.1 4)) rfl M.1 (by decide) rfl ?_
          refine g_istore_n (i := 3) (L1 := [some (.ref 60), some (.int x), some (.int v), some (.int (m.1 4))]) rfl (Nat.le_of_ble_eq_true rfl) rfl ?_
          refine g_aload_n (i := 0) rfl rfl ?_
          refine g_iload_n (i := 2) rfl rfl ?_
          refine g_putfield (h1 := h.set 60 (mO (upd m.1 (2 + 2) v))) rfl M.1 (by decide) (Nat.le_of_ble_eq_true rfl) rfl rfl ?_
          refine g_goto 123 rfl rfl ?_
          refine g_iload_n (i := 3) rfl rfl ?_
          refine g_ireturn (ty := .int) rfl rfl rfl ?_
          exact Or.inl ⟨2, by omega, by omega, by omega, rfl, rfl⟩
        · skip
          rw [i_eq, k_13] at c_12
          refine g_aload_n (i := 0) rfl rfl ?_
          refine g_iload_n (i := 2) rfl rfl ?_
          refine g_virt1 (Qc := fun r h' => h' = h ∧ (((0 ≤ v.toInt ∧ v.toInt < ((W * H : Nat) : Int)) ∧ r = some (.int 1)) ∨ (¬ (0 ≤ v.toInt ∧ v.toInt < ((W * H : Nat) : Int)) ∧ r = some (.int 0)))) rfl (by decide) rfl M.1 rfl (Nat.le_of_ble_eq_true rfl) (s_isSq12 (by omega) M.1 g) (fun r h hq9 => ?_)
          obtain ⟨rfl, ⟨c_14, rfl⟩ | ⟨c_14, rfl⟩⟩ := hq9
          · skip
            refine g_if_eq 88 rfl rfl (fun hc => absurd hc (by decide)) (fun _ => ?_)
            refine g_aload_n (i := 0) rfl rfl ?_
            refine g_getfield (v := .int (m.1 4)) rfl M.1 (by decide) rfl ?_
            refine g_istore_n (i := 3) (L1 := [some (.ref 60), some (.int x), some (.int v), some (.int (m.1 4))]) rfl (Nat.le_of_ble_eq_true rfl) rfl ?_
            refine g_aload_n (i := 0) rfl rfl ?_
            refine g_iload_n (i := 2) rfl rfl ?_
            refine g_putfield (h1 := h.set 60 (mO (upd m.1 (2 + 2) v))) rfl M.1 (by decide) (Nat.le_of_ble_eq_true rfl) rfl rfl ?_
            refine g_goto 123 rfl rfl ?_
            refine g_iload_n (i := 3) rfl rfl ?_
            refine g_ireturn (ty := .int) rfl rfl rfl ?_
            exact Or.inl ⟨2, by omega, by omega, by omega, rfl, rfl⟩
          · skip
            refine g_if_eq 88 rfl rfl (fun _ => ?_) (fun hc => absurd hc (by decide))
            refine g_iload_n (i := 1) rfl rfl ?_
            refine g_iconst (n := 3) rfl ?_
            have k_16 : (Int32.ofInt 3).toInt = 3 := rfl
            refine g_icmp_ne 116 rfl rfl (fun c_15 => ?_) (fun c_15 => ?_)
            · skip
              rw [i_eq, k_16] at c_15
              refine g_aload_n (i := 0) rfl rfl ?_
              refine g_bipush (n := (-6)) rfl ?_
              refine g_virt1 (Qc := fun r h' => r = some (.int (-16)) ∧ h' = h.set 61 (rFc (bump R 6))) rfl (by decide) rfl M.1 rfl (Nat.le_of_ble_eq_true rfl) (s_noTen2 (X := 6) (by omega) M.1 hR rfl (by decide)) (fun r h9 hq9 => ?_)
              obtain ⟨rfl, rfl⟩ := hq9
              refine g_ireturn (ty := .int) rfl rfl rfl ?_
              exact Or.inr ⟨by omega, rfl, rfl⟩
            · skip
              rw [i_eq, k_16] at c_15
              refine g_iload_n (i := 2) rfl rfl ?_
              refine g_if_lt 116 rfl rfl (fun c_17 => ?_) (fun c_17 => ?_)
              · skip
                rw [i_lt, k_2] at c_17
                refine g_aload_n (i := 0) rfl rfl ?_
                refine g_bipush (n := (-6)) rfl ?_
                refine g_virt1 (Qc := fun r h' => r = some (.int (-16)) ∧ h' = h.set 61 (rFc (bump R 6))) rfl (by decide) rfl M.1 rfl (Nat.le_of_ble_eq_true rfl) (s_noTen2 (X := 6) (by omega) M.1 hR rfl (by decide)) (fun r h9 hq9 => ?_)
                obtain ⟨rfl, rfl⟩ := hq9
                refine g_ireturn (ty := .int) rfl rfl rfl ?_
                exact Or.inr ⟨by omega, rfl, rfl⟩
              · skip
                rw [i_lt, k_2] at c_17
                refine g_iload_n (i := 2) rfl rfl ?_
                refine g_bipush (n := 20) rfl ?_
                have k_19 : ((Int8.ofInt 20).toInt32).toInt = 20 := rfl
                refine g_icmp_gt 116 rfl rfl (fun c_18 => ?_) (fun c_18 => ?_)
                · skip
                  rw [i_lt, k_19] at c_18
                  refine g_aload_n (i := 0) rfl rfl ?_
                  refine g_bipush (n := (-6)) rfl ?_
                  refine g_virt1 (Qc := fun r h' => r = some (.int (-16)) ∧ h' = h.set 61 (rFc (bump R 6))) rfl (by decide) rfl M.1 rfl (Nat.le_of_ble_eq_true rfl) (s_noTen2 (X := 6) (by omega) M.1 hR rfl (by decide)) (fun r h9 hq9 => ?_)
                  obtain ⟨rfl, rfl⟩ := hq9
                  refine g_ireturn (ty := .int) rfl rfl rfl ?_
                  exact Or.inr ⟨by omega, rfl, rfl⟩
                · skip
                  rw [i_lt, k_19] at c_18
                  refine g_aload_n (i := 0) rfl rfl ?_
                  refine g_getfield (v := .int (m.1 5)) rfl M.1 (by decide) rfl ?_
                  refine g_istore_n (i := 3) (L1 := [some (.ref 60), some (.int x), some (.int v), some (.int (m.1 5))]) rfl (Nat.le_of_ble_eq_true rfl) rfl ?_
                  refine g_aload_n (i := 0) rfl rfl ?_
                  refine g_iload_n (i := 2) rfl rfl ?_
                  refine g_putfield (h1 := h.set 60 (mO (upd m.1 (2 + 3) v))) rfl M.1 (by decide) (Nat.le_of_ble_eq_true rfl) rfl rfl ?_
                  refine g_goto 123 rfl rfl ?_
                  refine g_iload_n (i := 3) rfl rfl ?_
                  refine g_ireturn (ty := .int) rfl rfl rfl ?_
                  exact Or.inl ⟨3, by omega, by omega, by omega, rfl, rfl⟩
    · skip
      rw [i_eq, k_4] at c_3
      refine g_iload_n (i := 2) rfl rfl ?_
      refine g_iconst (n := (-1)) rfl ?_
      have k_21 : (Int32.ofInt (-1)).toInt = (-1) := rfl
      refine g_icmp_eq 44 rfl rfl (fun c_20 => ?_) (fun c_20 => ?_)
      · skip
        rw [i_eq, k_21] at c_20
        refine g_aload_n (i := 0) rfl rfl ?_
        refine g_getfield (v := .int (m.1 3)) rfl M.1 (by decide) rfl ?_
        refine g_istore_n (i := 3) (L1 := [some (.ref 60), some (.int x), some (.int v), some (.int (m.1 3))]) rfl (Nat.le_of_ble_eq_true rfl) rfl ?_
        refine g_aload_n (i := 0) rfl rfl ?_
        refine g_iload_n (i := 2) rfl rfl ?_
        refine g_putfield (h1 := h.set 60 (mO (upd m.1 (2 + 1) v))) rfl M.1 (by decide) (Nat.le_of_ble_eq_true rfl) rfl rfl ?_
        refine g_goto 123 rfl rfl ?_
        refine g_iload_n (i := 3) rfl rfl ?_
        refine g_ireturn (ty := .int) rfl rfl rfl ?_
        exact Or.inl ⟨1, by omega, by omega, by omega, rfl, rfl⟩
      · skip
        rw [i_eq, k_21] at c_20
        refine g_aload_n (i := 0) rfl rfl ?_
        refine g_iload_n (i := 2) rfl rfl ?_
        refine g_virt1 (Qc := fun r h' => h' = h ∧ (((0 ≤ v.toInt ∧ v.toInt < ((W * H : Nat) : Int)) ∧ r = some (.int 1)) ∨ (¬ (0 ≤ v.toInt ∧ v.toInt < ((W * H : Nat) : Int)) ∧ r = some (.int 0)))) rfl (by decide) rfl M.1 rfl (Nat.le_of_ble_eq_true rfl) (s_isSq12 (by omega) M.1 g) (fun r h hq9 => ?_)
        obtain ⟨rfl, ⟨c_22, rfl⟩ | ⟨c_22, rfl⟩⟩ := hq9
        · skip
          refine g_if_eq 57 rfl rfl (fun hc => absurd hc (by decide)) (fun _ => ?_)
          refine g_aload_n (i := 0) rfl rfl ?_
          refine g_getfield (v := .int (m.1 3)) rfl M.1 (by decide) rfl ?_
          refine g_istore_n (i := 3) (L1 := [some (.ref 60), some (.int x), some (.int v), some (.int (m.1 3))]) rfl (Nat.le_of_ble_eq_true rfl) rfl ?_
          refine g_aload_n (i := 0) rfl rfl ?_
          refine g_iload_n (i := 2) rfl rfl ?_
          refine g_putfield (h1 := h.set 60 (mO (upd m.1 (2 + 1) v))) rfl M.1 (by decide) (Nat.le_of_ble_eq_true rfl) rfl rfl ?_
          refine g_goto 123 rfl rfl ?_
          refine g_iload_n (i := 3) rfl rfl ?_
          refine g_ireturn (ty := .int) rfl rfl rfl ?_
          exact Or.inl ⟨1, by omega, by omega, by omega, rfl, rfl⟩
        · skip
          refine g_if_eq 57 rfl rfl (fun _ => ?_) (fun hc => absurd hc (by decide))
          refine g_iload_n (i := 1) rfl rfl ?_
          refine g_iconst (n := 2) rfl ?_
          have k_24 : (Int32.ofInt 2).toInt = 2 := rfl
          refine g_icmp_ne 88 rfl rfl (fun c_23 => ?_) (fun c_23 => ?_)
          · skip
            rw [i_eq, k_24] at c_23
            refine g_iload_n (i := 1) rfl rfl ?_
            refine g_iconst (n := 3) rfl ?_
            have k_26 : (Int32.ofInt 3).toInt = 3 := rfl
            refine g_icmp_ne 116 rfl rfl (fun c_25 => ?_) (fun c_25 => ?_)
            · skip
              rw [i_eq, k_26] at c_25
              refine g_aload_n (i := 0) rfl rfl ?_
              refine g_bipush (n := (-6)) rfl ?_
              refine g_virt1 (Qc := fun r h' => r = some (.int (-16)) ∧ h' = h.set 61 (rFc (bump R 6))) rfl (by decide) rfl M.1 rfl (Nat.le_of_ble_eq_true rfl) (s_noTen2 (X := 6) (by omega) M.1 hR rfl (by decide)) (fun r h9 hq9 => ?_)
              obtain ⟨rfl, rfl⟩ := hq9
              refine g_ireturn (ty := .int) rfl rfl rfl ?_
              exact Or.inr ⟨by omega, rfl, rfl⟩
            · skip
              rw [i_eq, k_26] at c_25
              refine g_iload_n (i := 2) rfl rfl ?_
              refine g_if_lt 116 rfl rfl (fun c_27 => ?_) (fun c_27 => ?_)
              · skip
                rw [i_lt, k_2] at c_27
                refine g_aload_n (i := 0) rfl rfl ?_
                refine g_bipush (n := (-6)) rfl ?_
                refine g_virt1 (Qc := fun r h' => r = some (.int (-16)) ∧ h' = h.set 61 (rFc (bump R 6))) rfl (by decide) rfl M.1 rfl (Nat.le_of_ble_eq_true rfl) (s_noTen2 (X := 6) (by omega) M.1 hR rfl (by decide)) (fun r h9 hq9 => ?_)
                obtain ⟨rfl, rfl⟩ := hq9
                refine g_ireturn (ty := .int) rfl rfl rfl ?_
                exact Or.inr ⟨by omega, rfl, rfl⟩
              · skip
                rw [i_lt, k_2] at c_27
                refine g_iload_n (i := 2) rfl rfl ?_
                refine g_bipush (n := 20) rfl ?_
                have k_29 : ((Int8.ofInt 20).toInt32).toInt = 20 := rfl
                refine g_icmp_gt 116 rfl rfl (fun c_28 => ?_) (fun c_28 => ?_)
                · skip
                  rw [i_lt, k_29] at c_28
                  refine g_aload_n (i := 0) rfl rfl ?_
                  refine g_bipush (n := (-6)) rfl ?_
                  refine g_virt1 (Qc := fun r h' => r = some (.int (-16)) ∧ h' = h.set 61 (rFc (bump R 6))) rfl (by decide) rfl M.1 rfl (Nat.le_of_ble_eq_true rfl) (s_noTen2 (X := 6) (by omega) M.1 hR rfl (by decide)) (fun r h9 hq9 => ?_)
                  obtain ⟨rfl, rfl⟩ := hq9
                  refine g_ireturn (ty := .int) rfl rfl rfl ?_
                  exact Or.inr ⟨by omega, rfl, rfl⟩
                · skip
                  rw [i_lt, k_29] at c_28
                  refine g_aload_n (i := 0) rfl rfl ?_
                  refine g_getfield (v := .int (m.1 5)) rfl M.1 (by decide) rfl ?_
                  refine g_istore_n (i := 3) (L1 := [some (.ref 60), some (.int x), some (.int v), some (.int (m.1 5))]) rfl (Nat.le_of_ble_eq_true rfl) rfl ?_
                  refine g_aload_n (i := 0) rfl rfl ?_
                  refine g_iload_n (i := 2) rfl rfl ?_
                  refine g_putfield (h1 := h.set 60 (mO (upd m.1 (2 + 3) v))) rfl M.1 (by decide) (Nat.le_of_ble_eq_true rfl) rfl rfl ?_
                  refine g_goto 123 rfl rfl ?_
                  refine g_iload_n (i := 3) rfl rfl ?_
                  refine g_ireturn (ty := .int) rfl rfl rfl ?_
                  exact Or.inl ⟨3, by omega, by omega, by omega, rfl, rfl⟩
          · skip
            rw [i_eq, k_24] at c_23
            refine g_iload_n (i := 2) rfl rfl ?_
            refine g_iconst (n := (-1)) rfl ?_
            refine g_icmp_eq 75 rfl rfl (fun c_30 => ?_) (fun c_30 => ?_)
            · skip
              rw [i_eq, k_21] at c_30
              refine g_aload_n (i := 0) rfl rfl ?_
              refine g_getfield (v := .int (m.1 4)) rfl M.1 (by decide) rfl ?_
              refine g_istore_n (i := 3) (L1 := [some (.ref 60), some (.int x), some (.int v), some (.int (m.1 4))]) rfl (Nat.le_of_ble_eq_true rfl) rfl ?_
              refine g_aload_n (i := 0) rfl rfl ?_
              refine g_iload_n (i := 2) rfl rfl ?_
              refine g_putfield (h1 := h.set 60 (mO (upd m.1 (2 + 2) v))) rfl M.1 (by decide) (Nat.le_of_ble_eq_true rfl) rfl rfl ?_
              refine g_goto 123 rfl rfl ?_
              refine g_iload_n (i := 3) rfl rfl ?_
              refine g_ireturn (ty := .int) rfl rfl rfl ?_
              exact Or.inl ⟨2, by omega, by omega, by omega, rfl, rfl⟩
            · skip
              rw [i_eq, k_21] at c_30
              refine g_aload_n (i := 0) rfl rfl ?_
              refine g_iload_n (i := 2) rfl rfl ?_
              refine g_virt1 (Qc := fun r h' => h' = h ∧ (((0 ≤ v.toInt ∧ v.toInt < ((W * H : Nat) : Int)) ∧ r = some (.int 1)) ∨ (¬ (0 ≤ v.toInt ∧ v.toInt < ((W * H : Nat) : Int)) ∧ r = some (.int 0)))) rfl (by decide) rfl M.1 rfl (Nat.le_of_ble_eq_true rfl) (s_isSq12 (by omega) M.1 g) (fun r h hq9 => ?_)
              obtain ⟨rfl, ⟨c_31, rfl⟩ | ⟨c_31, rfl⟩⟩ := hq9
              · skip
                refine g_if_eq 88 rfl rfl (fun hc => absurd hc (by decide)) (fun _ => ?_)
                refine g_aload_n (i := 0) rfl rfl ?_
                refine g_getfield (v := .int (m.1 4)) rfl M.1 (by decide) rfl ?_
                refine g_istore_n (i := 3) (L1 := [some (.ref 60), some (.int x), some (.int v), some (.int (m.1 4))]) rfl (Nat.le_of_ble_eq_true rfl) rfl ?_
                refine g_aload_n (i := 0) rfl rfl ?_
                refine g_iload_n (i := 2) rfl rfl ?_
                refine g_putfield (h1 := h.set 60 (mO (upd m.1 (2 + 2) v))) rfl M.1 (by decide) (Nat.le_of_ble_eq_true rfl) rfl rfl ?_
                refine g_goto 123 rfl rfl ?_
                refine g_iload_n (i := 3) rfl rfl ?_
                refine g_ireturn (ty := .int) rfl rfl rfl ?_
                exact Or.inl ⟨2, by omega, by omega, by omega, rfl, rfl⟩
              · skip
                refine g_if_eq 88 rfl rfl (fun _ => ?_) (fun hc => absurd hc (by decide))
                refine g_iload_n (i := 1) rfl rfl ?_
                refine g_iconst (n := 3) rfl ?_
                have k_33 : (Int32.ofInt 3).toInt = 3 := rfl
                refine g_icmp_ne 116 rfl rfl (fun c_32 => ?_) (fun c_32 => ?_)
                · skip
                  rw [i_eq, k_33] at c_32
                  refine g_aload_n (i := 0) rfl rfl ?_
                  refine g_bipush (n := (-6)) rfl ?_
                  refine g_virt1 (Qc := fun r h' => r = some (.int (-16)) ∧ h' = h.set 61 (rFc (bump R 6))) rfl (by decide) rfl M.1 rfl (Nat.le_of_ble_eq_true rfl) (s_noTen2 (X := 6) (by omega) M.1 hR rfl (by decide)) (fun r h9 hq9 => ?_)
                  obtain ⟨rfl, rfl⟩ := hq9
                  refine g_ireturn (ty := .int) rfl rfl rfl ?_
                  exact Or.inr ⟨by omega, rfl, rfl⟩
                · skip
                  rw [i_eq, k_33] at c_32
                  refine g_iload_n (i := 2) rfl rfl ?_
                  refine g_if_lt 116 rfl rfl (fun c_34 => ?_) (fun c_34 => ?_)
                  · skip
                    rw [i_lt, k_2] at c_34
                    refine g_aload_n (i := 0) rfl rfl ?_
                    refine g_bipush (n := (-6)) rfl ?_
                    refine g_virt1 (Qc := fun r h' => r = some (.int (-16)) ∧ h' = h.set 61 (rFc (bump R 6))) rfl (by decide) rfl M.1 rfl (Nat.le_of_ble_eq_true rfl) (s_noTen2 (X := 6) (by omega) M.1 hR rfl (by decide)) (fun r h9 hq9 => ?_)
                    obtain ⟨rfl, rfl⟩ := hq9
                    refine g_ireturn (ty := .int) rfl rfl rfl ?_
                    exact Or.inr ⟨by omega, rfl, rfl⟩
                  · skip
                    rw [i_lt, k_2] at c_34
                    refine g_iload_n (i := 2) rfl rfl ?_
                    refine g_bipush (n := 20) rfl ?_
                    have k_36 : ((Int8.ofInt 20).toInt32).toInt = 20 := rfl
                    refine g_icmp_gt 116 rfl rfl (fun c_35 => ?_) (fun c_35 => ?_)
                    · skip
                      rw [i_lt, k_36] at c_35
                      refine g_aload_n (i := 0) rfl rfl ?_
                      refine g_bipush (n := (-6)) rfl ?_
                      refine g_virt1 (Qc := fun r h' => r = some (.int (-16)) ∧ h' = h.set 61 (rFc (bump R 6))) rfl (by decide) rfl M.1 rfl (Nat.le_of_ble_eq_true rfl) (s_noTen2 (X := 6) (by omega) M.1 hR rfl (by decide)) (fun r h9 hq9 => ?_)
                      obtain ⟨rfl, rfl⟩ := hq9
                      refine g_ireturn (ty := .int) rfl rfl rfl ?_
                      exact Or.inr ⟨by omega, rfl, rfl⟩
                    · skip
                      rw [i_lt, k_36] at c_35
                      refine g_aload_n (i := 0) rfl rfl ?_
                      refine g_getfield (v := .int (m.1 5)) rfl M.1 (by decide) rfl ?_
                      refine g_istore_n (i := 3) (L1 := [some (.ref 60), some (.int x), some (.int v), some (.int (m.1 5))]) rfl (Nat.le_of_ble_eq_true rfl) rfl ?_
                      refine g_aload_n (i := 0) rfl rfl ?_
                      refine g_iload_n (i := 2) rfl rfl ?_
                      refine g_putfield (h1 := h.set 60 (mO (upd m.1 (2 + 3) v))) rfl M.1 (by decide) (Nat.le_of_ble_eq_true rfl) rfl rfl ?_
                      refine g_goto 123 rfl rfl ?_
                      refine g_iload_n (i := 3) rfl rfl ?_
                      refine g_ireturn (ty := .int) rfl rfl rfl ?_
                      exact Or.inl ⟨3, by omega, by omega, by omega, rfl, rfl⟩
  · skip
    rw [i_eq, k_2] at c_1
    refine g_iload_n (i := 2) rfl rfl ?_
    refine g_if_lt 26 rfl rfl (fun c_37 => ?_) (fun c_37 => ?_)
    · skip
      rw [i_lt, k_2] at c_37
      refine g_iload_n (i := 1) rfl rfl ?_
      refine g_iconst (n := 1) rfl ?_
      have k_39 : (Int32.ofInt 1).toInt = 1 := rfl
      refine g_icmp_ne 57 rfl rfl (fun c_38 => ?_) (fun c_38 => ?_)
      · skip
        rw [i_eq, k_39] at c_38
        refine g_iload_n (i := 1) rfl rfl ?_
        refine g_iconst (n := 2) rfl ?_
        have k_41 : (Int32.ofInt 2).toInt = 2 := rfl
        refine g_icmp_ne 88 rfl rfl (fun c_40 => ?_) (fun c_40 => ?_)
        · skip
          rw [i_eq, k_41] at c_40
          refine g_iload_n (i := 1) rfl rfl ?_
          refine g_iconst (n := 3) rfl ?_
          have k_43 : (Int32.ofInt 3).toInt = 3 := rfl
          refine g_icmp_ne 116 rfl rfl (fun c_42 => ?_) (fun c_42 => ?_)
          · skip
            rw [i_eq, k_43] at c_42
            refine g_aload_n (i := 0) rfl rfl ?_
            refine g_bipush (n := (-6)) rfl ?_
            refine g_virt1 (Qc := fun r h' => r = some (.int (-16)) ∧ h' = h.set 61 (rFc (bump R 6))) rfl (by decide) rfl M.1 rfl (Nat.le_of_ble_eq_true rfl) (s_noTen2 (X := 6) (by omega) M.1 hR rfl (by decide)) (fun r h9 hq9 => ?_)
            obtain ⟨rfl, rfl⟩ := hq9
            refine g_ireturn (ty := .int) rfl rfl rfl ?_
            exact Or.inr ⟨by omega, rfl, rfl⟩
          · skip
            rw [i_eq, k_43] at c_42
            refine g_iload_n (i := 2) rfl rfl ?_
            refine g_if_lt 116 rfl rfl (fun c_44 => ?_) (fun c_44 => ?_)
            · skip
              rw [i_lt, k_2] at c_44
              refine g_aload_n (i := 0) rfl rfl ?_
              refine g_bipush (n := (-6)) rfl ?_
              refine g_virt1 (Qc := fun r h' => r = some (.int (-16)) ∧ h' = h.set 61 (rFc (bump R 6))) rfl (by decide) rfl M.1 rfl (Nat.le_of_ble_eq_true rfl) (s_noTen2 (X := 6) (by omega) M.1 hR rfl (by decide)) (fun r h9 hq9 => ?_)
              obtain ⟨rfl, rfl⟩ := hq9
              refine g_ireturn (ty := .int) rfl rfl rfl ?_
              exact Or.inr ⟨by omega, rfl, rfl⟩
            · skip
              rw [i_lt, k_2] at c_44
              refine g_iload_n (i := 2) rfl rfl ?_
              refine g_bipush (n := 20) rfl ?_
              have k_46 : ((Int8.ofInt 20).toInt32).toInt = 20 := rfl
              refine g_icmp_gt 116 rfl rfl (fun c_45 => ?_) (fun c_45 => ?_)
              · skip
                rw [i_lt, k_46] at c_45
                refine g_aload_n (i := 0) rfl rfl ?_
                refine g_bipush (n := (-6)) rfl ?_
                refine g_virt1 (Qc := fun r h' => r = some (.int (-16)) ∧ h' = h.set 61 (rFc (bump R 6))) rfl (by decide) rfl M.1 rfl (Nat.le_of_ble_eq_true rfl) (s_noTen2 (X := 6) (by omega) M.1 hR rfl (by decide)) (fun r h9 hq9 => ?_)
                obtain ⟨rfl, rfl⟩ := hq9
                refine g_ireturn (ty := .int) rfl rfl rfl ?_
                exact Or.inr ⟨by omega, rfl, rfl⟩
              · skip
                rw [i_lt, k_46] at c_45
                refine g_aload_n (i := 0) rfl rfl ?_
                refine g_getfield (v := .int (m.1 5)) rfl M.1 (by decide) rfl ?_
                refine g_istore_n (i := 3) (L1 := [some (.ref 60), some (.int x), some (.int v), some (.int (m.1 5))]) rfl (Nat.le_of_ble_eq_true rfl) rfl ?_
                refine g_aload_n (i := 0) rfl rfl ?_
                refine g_iload_n (i := 2) rfl rfl ?_
                refine g_putfield (h1 := h.set 60 (mO (upd m.1 (2 + 3) v))) rfl M.1 (by decide) (Nat.le_of_ble_eq_true rfl) rfl rfl ?_
                refine g_goto 123 rfl rfl ?_
                refine g_iload_n (i := 3) rfl rfl ?_
                refine g_ireturn (ty := .int) rfl rfl rfl ?_
                exact Or.inl ⟨3, by omega, by omega, by omega, rfl, rfl⟩
        · skip
          rw [i_eq, k_41] at c_40
          refine g_iload_n (i := 2) rfl rfl ?_
          refine g_iconst (n := (-1)) rfl ?_
          have k_48 : (Int32.ofInt (-1)).toInt = (-1) := rfl
          refine g_icmp_eq 75 rfl rfl (fun c_47 => ?_) (fun c_47 => ?_)
          · skip
            rw [i_eq, k_48] at c_47
            refine g_aload_n (i := 0) rfl rfl ?_
            refine g_getfield (v := .int (m.1 4)) rfl M.1 (by decide) rfl ?_
            refine g_istore_n (i := 3) (L1 := [some (.ref 60), some (.int x), some (.int v), some (.int (m.1 4))]) rfl (Nat.le_of_ble_eq_true rfl) rfl ?_
            refine g_aload_n (i := 0) rfl rfl ?_
            refine g_iload_n (i := 2) rfl rfl ?_
            refine g_putfield (h1 := h.set 60 (mO (upd m.1 (2 + 2) v))) rfl M.1 (by decide) (Nat.le_of_ble_eq_true rfl) rfl rfl ?_
            refine g_goto 123 rfl rfl ?_
            refine g_iload_n (i := 3) rfl rfl ?_
            refine g_ireturn (ty := .int) rfl rfl rfl ?_
            exact Or.inl ⟨2, by omega, by omega, by omega, rfl, rfl⟩
          · skip
            rw [i_eq, k_48] at c_47
            refine g_aload_n (i := 0) rfl rfl ?_
            refine g_iload_n (i := 2) rfl rfl ?_
            refine g_virt1 (Qc := fun r h' => h' = h ∧ (((0 ≤ v.toInt ∧ v.toInt < ((W * H : Nat) : Int)) ∧ r = some (.int 1)) ∨ (¬ (0 ≤ v.toInt ∧ v.toInt < ((W * H : Nat) : Int)) ∧ r = some (.int 0)))) rfl (by decide) rfl M.1 rfl (Nat.le_of_ble_eq_true rfl) (s_isSq12 (by omega) M.1 g) (fun r h hq9 => ?_)
            obtain ⟨rfl, ⟨c_49, rfl⟩ | ⟨c_49, rfl⟩⟩ := hq9
            · skip
              refine g_if_eq 88 rfl rfl (fun hc => absurd hc (by decide)) (fun _ => ?_)
              refine g_aload_n (i := 0) rfl rfl ?_
              refine g_getfield (v := .int (m.1 4)) rfl M.1 (by decide) rfl ?_
              refine g_istore_n (i := 3) (L1 := [some (.ref 60), some (.int x), some (.int v), some (.int (m.1 4))]) rfl (Nat.le_of_ble_eq_true rfl) rfl ?_
              refine g_aload_n (i := 0) rfl rfl ?_
              refine g_iload_n (i := 2) rfl rfl ?_
              refine g_putfield (h1 := h.set 60 (mO (upd m.1 (2 + 2) v))) rfl M.1 (by decide) (Nat.le_of_ble_eq_true rfl) rfl rfl ?_
              refine g_goto 123 rfl rfl ?_
              refine g_iload_n (i := 3) rfl rfl ?_
              refine g_ireturn (ty := .int) rfl rfl rfl ?_
              exact Or.inl ⟨2, by omega, by omega, by omega, rfl, rfl⟩
            · skip
              refine g_if_eq 88 rfl rfl (fun _ => ?_) (fun hc => absurd hc (by decide))
              refine g_iload_n (i := 1) rfl rfl ?_
              refine g_iconst (n := 3) rfl ?_
              have k_51 : (Int32.ofInt 3).toInt = 3 := rfl
              refine g_icmp_ne 116 rfl rfl (fun c_50 => ?_) (fun c_50 => ?_)
              · skip
                rw [i_eq, k_51] at c_50
                refine g_aload_n (i := 0) rfl rfl ?_
                refine g_bipush (n := (-6)) rfl ?_
                refine g_virt1 (Qc := fun r h' => r = some (.int (-16)) ∧ h' = h.set 61 (rFc (bump R 6))) rfl (by decide) rfl M.1 rfl (Nat.le_of_ble_eq_true rfl) (s_noTen2 (X := 6) (by omega) M.1 hR rfl (by decide)) (fun r h9 hq9 => ?_)
                obtain ⟨rfl, rfl⟩ := hq9
                refine g_ireturn (ty := .int) rfl rfl rfl ?_
                exact Or.inr ⟨by omega, rfl, rfl⟩
              · skip
                rw [i_eq, k_51] at c_50
                refine g_iload_n (i := 2) rfl rfl ?_
                refine g_if_lt 116 rfl rfl (fun c_52 => ?_) (fun c_52 => ?_)
                · skip
                  rw [i_lt, k_2] at c_52
                  refine g_aload_n (i := 0) rfl rfl ?_
                  refine g_bipush (n := (-6)) rfl ?_
                  refine g_virt1 (Qc := fun r h' => r = some (.int (-16)) ∧ h' = h.set 61 (rFc (bump R 6))) rfl (by decide) rfl M.1 rfl (Nat.le_of_ble_eq_true rfl) (s_noTen2 (X := 6) (by omega) M.1 hR rfl (by decide)) (fun r h9 hq9 => ?_)
                  obtain ⟨rfl, rfl⟩ := hq9
                  refine g_ireturn (ty := .int) rfl rfl rfl ?_
                  exact Or.inr ⟨by omega, rfl, rfl⟩
                · skip
                  rw [i_lt, k_2] at c_52
                  refine g_iload_n (i := 2) rfl rfl ?_
                  refine g_bipush (n := 20) rfl ?_
                  have k_54 : ((Int8.ofInt 20).toInt32).toInt = 20 := rfl
                  refine g_icmp_gt 116 rfl rfl (fun c_53 => ?_) (fun c_53 => ?_)
                  · skip
                    rw [i_lt, k_54] at c_53
                    refine g_aload_n (i := 0) rfl rfl ?_
                    refine g_bipush (n := (-6)) rfl ?_
                    refine g_virt1 (Qc := fun r h' => r = some (.int (-16)) ∧ h' = h.set 61 (rFc (bump R 6))) rfl (by decide) rfl M.1 rfl (Nat.le_of_ble_eq_true rfl) (s_noTen2 (X := 6) (by omega) M.1 hR rfl (by decide)) (fun r h9 hq9 => ?_)
                    obtain ⟨rfl, rfl⟩ := hq9
                    refine g_ireturn (ty := .int) rfl rfl rfl ?_
                    exact Or.inr ⟨by omega, rfl, rfl⟩
                  · skip
                    rw [i_lt, k_54] at c_53
                    refine g_aload_n (i := 0) rfl rfl ?_
                    refine g_getfield (v := .int (m.1 5)) rfl M.1 (by decide) rfl ?_
                    refine g_istore_n (i := 3) (L1 := [some (.ref 60), some (.int x), some (.int v), some (.int (m.1 5))]) rfl (Nat.le_of_ble_eq_true rfl) rfl ?_
                    refine g_aload_n (i := 0) rfl rfl ?_
                    refine g_iload_n (i := 2) rfl rfl ?_
                    refine g_putfield (h1 := h.set 60 (mO (upd m.1 (2 + 3) v))) rfl M.1 (by decide) (Nat.le_of_ble_eq_true rfl) rfl rfl ?_
                    refine g_goto 123 rfl rfl ?_
                    refine g_iload_n (i := 3) rfl rfl ?_
                    refine g_ireturn (ty := .int) rfl rfl rfl ?_
                    exact Or.inl ⟨3, by omega, by omega, by omega, rfl, rfl⟩
      · skip
        rw [i_eq, k_39] at c_38
        refine g_iload_n (i := 2) rfl rfl ?_
        refine g_iconst (n := (-1)) rfl ?_
        have k_56 : (Int32.ofInt (-1)).toInt = (-1) := rfl
        refine g_icmp_eq 44 rfl rfl (fun c_55 => ?_) (fun c_55 => ?_)
        · skip
          rw [i_eq, k_56] at c_55
          refine g_aload_n (i := 0) rfl rfl ?_
          refine g_getfield (v := .int (m.1 3)) rfl M.1 (by decide) rfl ?_
          refine g_istore_n (i := 3) (L1 := [some (.ref 60), some (.int x), some (.int v), some (.int (m.1 3))]) rfl (Nat.le_of_ble_eq_true rfl) rfl ?_
          refine g_aload_n (i := 0) rfl rfl ?_
          refine g_iload_n (i := 2) rfl rfl ?_
          refine g_putfield (h1 := h.set 60 (mO (upd m.1 (2 + 1) v))) rfl M.1 (by decide) (Nat.le_of_ble_eq_true rfl) rfl rfl ?_
          refine g_goto 123 rfl rfl ?_
          refine g_iload_n (i := 3) rfl rfl ?_
          refine g_ireturn (ty := .int) rfl rfl rfl ?_
          exact Or.inl ⟨1, by omega, by omega, by omega, rfl, rfl⟩
        · skip
          rw [i_eq, k_56] at c_55
          refine g_aload_n (i := 0) rfl rfl ?_
          refine g_iload_n (i := 2) rfl rfl ?_
          refine g_virt1 (Qc := fun r h' => h' = h ∧ (((0 ≤ v.toInt ∧ v.toInt < ((W * H : Nat) : Int)) ∧ r = some (.int 1)) ∨ (¬ (0 ≤ v.toInt ∧ v.toInt < ((W * H : Nat) : Int)) ∧ r = some (.int 0)))) rfl (by decide) rfl M.1 rfl (Nat.le_of_ble_eq_true rfl) (s_isSq12 (by omega) M.1 g) (fun r h hq9 => ?_)
          obtain ⟨rfl, ⟨c_57, rfl⟩ | ⟨c_57, rfl⟩⟩ := hq9
          · skip
            refine g_if_eq 57 rfl rfl (fun hc => absurd hc (by decide)) (fun _ => ?_)
            refine g_aload_n (i := 0) rfl rfl ?_
            refine g_getfield (v := .int (m.1 3)) rfl M.1 (by decide) rfl ?_
            refine g_istore_n (i := 3) (L1 := [some (.ref 60), some (.int x), some (.int v), some (.int (m.1 3))]) rfl (Nat.le_of_ble_eq_true rfl) rfl ?_
            refine g_aload_n (i := 0) rfl rfl ?_
            refine g_iload_n (i := 2) rfl rfl ?_
            refine g_putfield (h1 := h.set 60 (mO (upd m.1 (2 + 1) v))) rfl M.1 (by decide) (Nat.le_of_ble_eq_true rfl) rfl rfl ?_
            refine g_goto 123 rfl rfl ?_
            refine g_iload_n (i := 3) rfl rfl ?_
            refine g_ireturn (ty := .int) rfl rfl rfl ?_
            exact Or.inl ⟨1, by omega, by omega, by omega, rfl, rfl⟩
          · skip
            refine g_if_eq 57 rfl rfl (fun _ => ?_) (fun hc => absurd hc (by decide))
            refine g_iload_n (i := 1) rfl rfl ?_
            refine g_iconst (n := 2) rfl ?_
            have k_59 : (Int32.ofInt 2).toInt = 2 := rfl
            refine g_icmp_ne 88 rfl rfl (fun c_58 => ?_) (fun c_58 => ?_)
            · skip
              rw [i_eq, k_59] at c_58
              refine g_iload_n (i := 1) rfl rfl ?_
              refine g_iconst (n := 3) rfl ?_
              have k_61 : (Int32.ofInt 3).toInt = 3 := rfl
              refine g_icmp_ne 116 rfl rfl (fun c_60 => ?_) (fun c_60 => ?_)
              · skip
                rw [i_eq, k_61] at c_60
                refine g_aload_n (i := 0) rfl rfl ?_
                refine g_bipush (n := (-6)) rfl ?_
                refine g_virt1 (Qc := fun r h' => r = some (.int (-16)) ∧ h' = h.set 61 (rFc (bump R 6))) rfl (by decide) rfl M.1 rfl (Nat.le_of_ble_eq_true rfl) (s_noTen2 (X := 6) (by omega) M.1 hR rfl (by decide)) (fun r h9 hq9 => ?_)
                obtain ⟨rfl, rfl⟩ := hq9
                refine g_ireturn (ty := .int) rfl rfl rfl ?_
                exact Or.inr ⟨by omega, rfl, rfl⟩
              · skip
                rw [i_eq, k_61] at c_60
                refine g_iload_n (i := 2) rfl rfl ?_
                refine g_if_lt 116 rfl rfl (fun c_62 => ?_) (fun c_62 => ?_)
                · skip
                  rw [i_lt, k_2] at c_62
                  refine g_aload_n (i := 0) rfl rfl ?_
                  refine g_bipush (n := (-6)) rfl ?_
                  refine g_virt1 (Qc := fun r h' => r = some (.int (-16)) ∧ h' = h.set 61 (rFc (bump R 6))) rfl (by decide) rfl M.1 rfl (Nat.le_of_ble_eq_true rfl) (s_noTen2 (X := 6) (by omega) M.1 hR rfl (by decide)) (fun r h9 hq9 => ?_)
                  obtain ⟨rfl, rfl⟩ := hq9
                  refine g_ireturn (ty := .int) rfl rfl rfl ?_
                  exact Or.inr ⟨by omega, rfl, rfl⟩
                · skip
                  rw [i_lt, k_2] at c_62
                  refine g_iload_n (i := 2) rfl rfl ?_
                  refine g_bipush (n := 20) rfl ?_
                  have k_64 : ((Int8.ofInt 20).toInt32).toInt = 20 := rfl
                  refine g_icmp_gt 116 rfl rfl (fun c_63 => ?_) (fun c_63 => ?_)
                  · skip
                    rw [i_lt, k_64] at c_63
                    refine g_aload_n (i := 0) rfl rfl ?_
                    refine g_bipush (n := (-6)) rfl ?_
                    refine g_virt1 (Qc := fun r h' => r = some (.int (-16)) ∧ h' = h.set 61 (rFc (bump R 6))) rfl (by decide) rfl M.1 rfl (Nat.le_of_ble_eq_true rfl) (s_noTen2 (X := 6) (by omega) M.1 hR rfl (by decide)) (fun r h9 hq9 => ?_)
                    obtain ⟨rfl, rfl⟩ := hq9
                    refine g_ireturn (ty := .int) rfl rfl rfl ?_
                    exact Or.inr ⟨by omega, rfl, rfl⟩
                  · skip
                    rw [i_lt, k_64] at c_63
                    refine g_aload_n (i := 0) rfl rfl ?_
                    refine g_getfield (v := .int (m.1 5)) rfl M.1 (by decide) rfl ?_
                    refine g_istore_n (i := 3) (L1 := [some (.ref 60), some (.int x), some (.int v), some (.int (m.1 5))]) rfl (Nat.le_of_ble_eq_true rfl) rfl ?_
                    refine g_aload_n (i := 0) rfl rfl ?_
                    refine g_iload_n (i := 2) rfl rfl ?_
                    refine g_putfield (h1 := h.set 60 (mO (upd m.1 (2 + 3) v))) rfl M.1 (by decide) (Nat.le_of_ble_eq_true rfl) rfl rfl ?_
                    refine g_goto 123 rfl rfl ?_
                    refine g_iload_n (i := 3) rfl rfl ?_
                    refine g_ireturn (ty := .int) rfl rfl rfl ?_
                    exact Or.inl ⟨3, by omega, by omega, by omega, rfl, rfl⟩
            · skip
              rw [i_eq, k_59] at c_58
              refine g_iload_n (i := 2) rfl rfl ?_
              refine g_iconst (n := (-1)) rfl ?_
              refine g_icmp_eq 75 rfl rfl (fun c_65 => ?_) (fun c_65 => ?_)
              · skip
                rw [i_eq, k_56] at c_65
                refine g_aload_n (i := 0) rfl rfl ?_
                refine g_getfield (v := .int (m.1 4)) rfl M.1 (by decide) rfl ?_
                refine g_istore_n (i := 3) (L1 := [some (.ref 60), some (.int x), some (.int v), some (.int (m.1 4))]) rfl (Nat.le_of_ble_eq_true rfl) rfl ?_
                refine g_aload_n (i := 0) rfl rfl ?_
                refine g_iload_n (i := 2) rfl rfl ?_
                refine g_putfield (h1 := h.set 60 (mO (upd m.1 (2 + 2) v))) rfl M.1 (by decide) (Nat.le_of_ble_eq_true rfl) rfl rfl ?_
                refine g_goto 123 rfl rfl ?_
                refine g_iload_n (i := 3) rfl rfl ?_
                refine g_ireturn (ty := .int) rfl rfl rfl ?_
                exact Or.inl ⟨2, by omega, by omega, by omega, rfl, rfl⟩
              · skip
                rw [i_eq, k_56] at c_65
                refine g_aload_n (i := 0) rfl rfl ?_
                refine g_iload_n (i := 2) rfl rfl ?_
                refine g_virt1 (Qc := fun r h' => h' = h ∧ (((0 ≤ v.toInt ∧ v.toInt < ((W * H : Nat) : Int)) ∧ r = some (.int 1)) ∨ (¬ (0 ≤ v.toInt ∧ v.toInt < ((W * H : Nat) : Int)) ∧ r = some (.int 0)))) rfl (by decide) rfl M.1 rfl (Nat.le_of_ble_eq_true rfl) (s_isSq12 (by omega) M.1 g) (fun r h hq9 => ?_)
                obtain ⟨rfl, ⟨c_66, rfl⟩ | ⟨c_66, rfl⟩⟩ := hq9
                · skip
                  refine g_if_eq 88 rfl rfl (fun hc => absurd hc (by decide)) (fun _ => ?_)
                  refine g_aload_n (i := 0) rfl rfl ?_
                  refine g_getfield (v := .int (m.1 4)) rfl M.1 (by decide) rfl ?_
                  refine g_istore_n (i := 3) (L1 := [some (.ref 60), some (.int x), some (.int v), some (.int (m.1 4))]) rfl (Nat.le_of_ble_eq_true rfl) rfl ?_
                  refine g_aload_n (i := 0) rfl rfl ?_
                  refine g_iload_n (i := 2) rfl rfl ?_
                  refine g_putfield (h1 := h.set 60 (mO (upd m.1 (2 + 2) v))) rfl M.1 (by decide) (Nat.le_of_ble_eq_true rfl) rfl rfl ?_
                  refine g_goto 123 rfl rfl ?_
                  refine g_iload_n (i := 3) rfl rfl ?_
                  refine g_ireturn (ty := .int) rfl rfl rfl ?_
                  exact Or.inl ⟨2, by omega, by omega, by omega, rfl, rfl⟩
                · skip
                  refine g_if_eq 88 rfl rfl (fun _ => ?_) (fun hc => absurd hc (by decide))
                  refine g_iload_n (i := 1) rfl rfl ?_
                  refine g_iconst (n := 3) rfl ?_
                  have k_68 : (Int32.ofInt 3).toInt = 3 := rfl
                  refine g_icmp_ne 116 rfl rfl (fun c_67 => ?_) (fun c_67 => ?_)
                  · skip
                    rw [i_eq, k_68] at c_67
                    refine g_aload_n (i := 0) rfl rfl ?_
                    refine g_bipush (n := (-6)) rfl ?_
                    refine g_virt1 (Qc := fun r h' => r = some (.int (-16)) ∧ h' = h.set 61 (rFc (bump R 6))) rfl (by decide) rfl M.1 rfl (Nat.le_of_ble_eq_true rfl) (s_noTen2 (X := 6) (by omega) M.1 hR rfl (by decide)) (fun r h9 hq9 => ?_)
                    obtain ⟨rfl, rfl⟩ := hq9
                    refine g_ireturn (ty := .int) rfl rfl rfl ?_
                    exact Or.inr ⟨by omega, rfl, rfl⟩
                  · skip
                    rw [i_eq, k_68] at c_67
                    refine g_iload_n (i := 2) rfl rfl ?_
                    refine g_if_lt 116 rfl rfl (fun c_69 => ?_) (fun c_69 => ?_)
                    · skip
                      rw [i_lt, k_2] at c_69
                      refine g_aload_n (i := 0) rfl rfl ?_
                      refine g_bipush (n := (-6)) rfl ?_
                      refine g_virt1 (Qc := fun r h' => r = some (.int (-16)) ∧ h' = h.set 61 (rFc (bump R 6))) rfl (by decide) rfl M.1 rfl (Nat.le_of_ble_eq_true rfl) (s_noTen2 (X := 6) (by omega) M.1 hR rfl (by decide)) (fun r h9 hq9 => ?_)
                      obtain ⟨rfl, rfl⟩ := hq9
                      refine g_ireturn (ty := .int) rfl rfl rfl ?_
                      exact Or.inr ⟨by omega, rfl, rfl⟩
                    · skip
                      rw [i_lt, k_2] at c_69
                      refine g_iload_n (i := 2) rfl rfl ?_
                      refine g_bipush (n := 20) rfl ?_
                      have k_71 : ((Int8.ofInt 20).toInt32).toInt = 20 := rfl
                      refine g_icmp_gt 116 rfl rfl (fun c_70 => ?_) (fun c_70 => ?_)
                      · skip
                        rw [i_lt, k_71] at c_70
                        refine g_aload_n (i := 0) rfl rfl ?_
                        refine g_bipush (n := (-6)) rfl ?_
                        refine g_virt1 (Qc := fun r h' => r = some (.int (-16)) ∧ h' = h.set 61 (rFc (bump R 6))) rfl (by decide) rfl M.1 rfl (Nat.le_of_ble_eq_true rfl) (s_noTen2 (X := 6) (by omega) M.1 hR rfl (by decide)) (fun r h9 hq9 => ?_)
                        obtain ⟨rfl, rfl⟩ := hq9
                        refine g_ireturn (ty := .int) rfl rfl rfl ?_
                        exact Or.inr ⟨by omega, rfl, rfl⟩
                      · skip
                        rw [i_lt, k_71] at c_70
                        refine g_aload_n (i := 0) rfl rfl ?_
                        refine g_getfield (v := .int (m.1 5)) rfl M.1 (by decide) rfl ?_
                        refine g_istore_n (i := 3) (L1 := [some (.ref 60), some (.int x), some (.int v), some (.int (m.1 5))]) rfl (Nat.le_of_ble_eq_true rfl) rfl ?_
                        refine g_aload_n (i := 0) rfl rfl ?_
                        refine g_iload_n (i := 2) rfl rfl ?_
                        refine g_putfield (h1 := h.set 60 (mO (upd m.1 (2 + 3) v))) rfl M.1 (by decide) (Nat.le_of_ble_eq_true rfl) rfl rfl ?_
                        refine g_goto 123 rfl rfl ?_
                        refine g_iload_n (i := 3) rfl rfl ?_
                        refine g_ireturn (ty := .int) rfl rfl rfl ?_
                        exact Or.inl ⟨3, by omega, by omega, by omega, rfl, rfl⟩
    · skip
      rw [i_lt, k_2] at c_37
      refine g_iload_n (i := 2) rfl rfl ?_
      refine g_iconst (n := 4) rfl ?_
      have k_73 : (Int32.ofInt 4).toInt = 4 := rfl
      refine g_icmp_ge 26 rfl rfl (fun c_72 => ?_) (fun c_72 => ?_)
      · skip
        rw [i_le, k_73] at c_72
        refine g_iload_n (i := 1) rfl rfl ?_
        refine g_iconst (n := 1) rfl ?_
        have k_75 : (Int32.ofInt 1).toInt = 1 := rfl
        refine g_icmp_ne 57 rfl rfl (fun c_74 => ?_) (fun c_74 => ?_)
        · skip
          rw [i_eq, k_75] at c_74
          refine g_iload_n (i := 1) rfl rfl ?_
          refine g_iconst (n := 2) rfl ?_
          have k_77 : (Int32.ofInt 2).toInt = 2 := rfl
          refine g_icmp_ne 88 rfl rfl (fun c_76 => ?_) (fun c_76 => ?_)
          · skip
            rw [i_eq, k_77] at c_76
            refine g_iload_n (i := 1) rfl rfl ?_
            refine g_iconst (n := 3) rfl ?_
            have k_79 : (Int32.ofInt 3).toInt = 3 := rfl
            refine g_icmp_ne 116 rfl rfl (fun c_78 => ?_) (fun c_78 => ?_)
            · skip
              rw [i_eq, k_79] at c_78
              refine g_aload_n (i := 0) rfl rfl ?_
              refine g_bipush (n := (-6)) rfl ?_
              refine g_virt1 (Qc := fun r h' => r = some (.int (-16)) ∧ h' = h.set 61 (rFc (bump R 6))) rfl (by decide) rfl M.1 rfl (Nat.le_of_ble_eq_true rfl) (s_noTen2 (X := 6) (by omega) M.1 hR rfl (by decide)) (fun r h9 hq9 => ?_)
              obtain ⟨rfl, rfl⟩ := hq9
              refine g_ireturn (ty := .int) rfl rfl rfl ?_
              exact Or.inr ⟨by omega, rfl, rfl⟩
            · skip
              rw [i_eq, k_79] at c_78
              refine g_iload_n (i := 2) rfl rfl ?_
              refine g_if_lt 116 rfl rfl (fun c_80 => ?_) (fun c_80 => ?_)
              · skip
                rw [i_lt, k_2] at c_80
                refine g_aload_n (i := 0) rfl rfl ?_
                refine g_bipush (n := (-6)) rfl ?_
                refine g_virt1 (Qc := fun r h' => r = some (.int (-16)) ∧ h' = h.set 61 (rFc (bump R 6))) rfl (by decide) rfl M.1 rfl (Nat.le_of_ble_eq_true rfl) (s_noTen2 (X := 6) (by omega) M.1 hR rfl (by decide)) (fun r h9 hq9 => ?_)
                obtain ⟨rfl, rfl⟩ := hq9
                refine g_ireturn (ty := .int) rfl rfl rfl ?_
                exact Or.inr ⟨by omega, rfl, rfl⟩
              · skip
                rw [i_lt, k_2] at c_80
                refine g_iload_n (i := 2) rfl rfl ?_
                refine g_bipush (n := 20) rfl ?_
                have k_82 : ((Int8.ofInt 20).toInt32).toInt = 20 := rfl
                refine g_icmp_gt 116 rfl rfl (fun c_81 => ?_) (fun c_81 => ?_)
                · skip
                  rw [i_lt, k_82] at c_81
                  refine g_aload_n (i := 0) rfl rfl ?_
                  refine g_bipush (n := (-6)) rfl ?_
                  refine g_virt1 (Qc := fun r h' => r = some (.int (-16)) ∧ h' = h.set 61 (rFc (bump R 6))) rfl (by decide) rfl M.1 rfl (Nat.le_of_ble_eq_true rfl) (s_noTen2 (X := 6) (by omega) M.1 hR rfl (by decide)) (fun r h9 hq9 => ?_)
                  obtain ⟨rfl, rfl⟩ := hq9
                  refine g_ireturn (ty := .int) rfl rfl rfl ?_
                  exact Or.inr ⟨by omega, rfl, rfl⟩
                · skip
                  rw [i_lt, k_82] at c_81
                  refine g_aload_n (i := 0) rfl rfl ?_
                  refine g_getfield (v := .int (m.1 5)) rfl M.1 (by decide) rfl ?_
                  refine g_istore_n (i := 3) (L1 := [some (.ref 60), some (.int x), some (.int v), some (.int (m.1 5))]) rfl (Nat.le_of_ble_eq_true rfl) rfl ?_
                  refine g_aload_n (i := 0) rfl rfl ?_
                  refine g_iload_n (i := 2) rfl rfl ?_
                  refine g_putfield (h1 := h.set 60 (mO (upd m.1 (2 + 3) v))) rfl M.1 (by decide) (Nat.le_of_ble_eq_true rfl) rfl rfl ?_
                  refine g_goto 123 rfl rfl ?_
                  refine g_iload_n (i := 3) rfl rfl ?_
                  refine g_ireturn (ty := .int) rfl rfl rfl ?_
                  exact Or.inl ⟨3, by omega, by omega, by omega, rfl, rfl⟩
          · skip
            rw [i_eq, k_77] at c_76
            refine g_iload_n (i := 2) rfl rfl ?_
            refine g_iconst (n := (-1)) rfl ?_
            have k_84 : (Int32.ofInt (-1)).toInt = (-1) := rfl
            refine g_icmp_eq 75 rfl rfl (fun c_83 => ?_) (fun c_83 => ?_)
            · skip
              rw [i_eq, k_84] at c_83
              refine g_aload_n (i := 0) rfl rfl ?_
              refine g_getfield (v := .int (m.1 4)) rfl M.1 (by decide) rfl ?_
              refine g_istore_n (i := 3) (L1 := [some (.ref 60), some (.int x), some (.int v), some (.int (m.1 4))]) rfl (Nat.le_of_ble_eq_true rfl) rfl ?_
              refine g_aload_n (i := 0) rfl rfl ?_
              refine g_iload_n (i := 2) rfl rfl ?_
              refine g_putfield (h1 := h.set 60 (mO (upd m.1 (2 + 2) v))) rfl M.1 (by decide) (Nat.le_of_ble_eq_true rfl) rfl rfl ?_
              refine g_goto 123 rfl rfl ?_
              refine g_iload_n (i := 3) rfl rfl ?_
              refine g_ireturn (ty := .int) rfl rfl rfl ?_
              exact Or.inl ⟨2, by omega, by omega, by omega, rfl, rfl⟩
            · skip
              rw [i_eq, k_84] at c_83
              refine g_aload_n (i := 0) rfl rfl ?_
              refine g_iload_n (i := 2) rfl rfl ?_
              refine g_virt1 (Qc := fun r h' => h' = h ∧ (((0 ≤ v.toInt ∧ v.toInt < ((W * H : Nat) : Int)) ∧ r = some (.int 1)) ∨ (¬ (0 ≤ v.toInt ∧ v.toInt < ((W * H : Nat) : Int)) ∧ r = some (.int 0)))) rfl (by decide) rfl M.1 rfl (Nat.le_of_ble_eq_true rfl) (s_isSq12 (by omega) M.1 g) (fun r h hq9 => ?_)
              obtain ⟨rfl, ⟨c_85, rfl⟩ | ⟨c_85, rfl⟩⟩ := hq9
              · skip
                refine g_if_eq 88 rfl rfl (fun hc => absurd hc (by decide)) (fun _ => ?_)
                refine g_aload_n (i := 0) rfl rfl ?_
                refine g_getfield (v := .int (m.1 4)) rfl M.1 (by decide) rfl ?_
                refine g_istore_n (i := 3) (L1 := [some (.ref 60), some (.int x), some (.int v), some (.int (m.1 4))]) rfl (Nat.le_of_ble_eq_true rfl) rfl ?_
                refine g_aload_n (i := 0) rfl rfl ?_
                refine g_iload_n (i := 2) rfl rfl ?_
                refine g_putfield (h1 := h.set 60 (mO (upd m.1 (2 + 2) v))) rfl M.1 (by decide) (Nat.le_of_ble_eq_true rfl) rfl rfl ?_
                refine g_goto 123 rfl rfl ?_
                refine g_iload_n (i := 3) rfl rfl ?_
                refine g_ireturn (ty := .int) rfl rfl rfl ?_
                exact Or.inl ⟨2, by omega, by omega, by omega, rfl, rfl⟩
              · skip
                refine g_if_eq 88 rfl rfl (fun _ => ?_) (fun hc => absurd hc (by decide))
                refine g_iload_n (i := 1) rfl rfl ?_
                refine g_iconst (n := 3) rfl ?_
                have k_87 : (Int32.ofInt 3).toInt = 3 := rfl
                refine g_icmp_ne 116 rfl rfl (fun c_86 => ?_) (fun c_86 => ?_)
                · skip
                  rw [i_eq, k_87] at c_86
                  refine g_aload_n (i := 0) rfl rfl ?_
                  refine g_bipush (n := (-6)) rfl ?_
                  refine g_virt1 (Qc := fun r h' => r = some (.int (-16)) ∧ h' = h.set 61 (rFc (bump R 6))) rfl (by decide) rfl M.1 rfl (Nat.le_of_ble_eq_true rfl) (s_noTen2 (X := 6) (by omega) M.1 hR rfl (by decide)) (fun r h9 hq9 => ?_)
                  obtain ⟨rfl, rfl⟩ := hq9
                  refine g_ireturn (ty := .int) rfl rfl rfl ?_
                  exact Or.inr ⟨by omega, rfl, rfl⟩
                · skip
                  rw [i_eq, k_87] at c_86
                  refine g_iload_n (i := 2) rfl rfl ?_
                  refine g_if_lt 116 rfl rfl (fun c_88 => ?_) (fun c_88 => ?_)
                  · skip
                    rw [i_lt, k_2] at c_88
                    refine g_aload_n (i := 0) rfl rfl ?_
                    refine g_bipush (n := (-6)) rfl ?_
                    refine g_virt1 (Qc := fun r h' => r = some (.int (-16)) ∧ h' = h.set 61 (rFc (bump R 6))) rfl (by decide) rfl M.1 rfl (Nat.le_of_ble_eq_true rfl) (s_noTen2 (X := 6) (by omega) M.1 hR rfl (by decide)) (fun r h9 hq9 => ?_)
                    obtain ⟨rfl, rfl⟩ := hq9
                    refine g_ireturn (ty := .int) rfl rfl rfl ?_
                    exact Or.inr ⟨by omega, rfl, rfl⟩
                  · skip
                    rw [i_lt, k_2] at c_88
                    refine g_iload_n (i := 2) rfl rfl ?_
                    refine g_bipush (n := 20) rfl ?_
                    have k_90 : ((Int8.ofInt 20).toInt32).toInt = 20 := rfl
                    refine g_icmp_gt 116 rfl rfl (fun c_89 => ?_) (fun c_89 => ?_)
                    · skip
                      rw [i_lt, k_90] at c_89
                      refine g_aload_n (i := 0) rfl rfl ?_
                      refine g_bipush (n := (-6)) rfl ?_
                      refine g_virt1 (Qc := fun r h' => r = some (.int (-16)) ∧ h' = h.set 61 (rFc (bump R 6))) rfl (by decide) rfl M.1 rfl (Nat.le_of_ble_eq_true rfl) (s_noTen2 (X := 6) (by omega) M.1 hR rfl (by decide)) (fun r h9 hq9 => ?_)
                      obtain ⟨rfl, rfl⟩ := hq9
                      refine g_ireturn (ty := .int) rfl rfl rfl ?_
                      exact Or.inr ⟨by omega, rfl, rfl⟩
                    · skip
                      rw [i_lt, k_90] at c_89
                      refine g_aload_n (i := 0) rfl rfl ?_
                      refine g_getfield (v := .int (m.1 5)) rfl M.1 (by decide) rfl ?_
                      refine g_istore_n (i := 3) (L1 := [some (.ref 60), some (.int x), some (.int v), some (.int (m.1 5))]) rfl (Nat.le_of_ble_eq_true rfl) rfl ?_
                      refine g_aload_n (i := 0) rfl rfl ?_
                      refine g_iload_n (i := 2) rfl rfl ?_
                      refine g_putfield (h1 := h.set 60 (mO (upd m.1 (2 + 3) v))) rfl M.1 (by decide) (Nat.le_of_ble_eq_true rfl) rfl rfl ?_
                      refine g_goto 123 rfl rfl ?_
                      refine g_iload_n (i := 3) rfl rfl ?_
                      refine g_ireturn (ty := .int) rfl rfl rfl ?_
                      exact Or.inl ⟨3, by omega, by omega, by omega, rfl, rfl⟩
        · skip
          rw [i_eq, k_75] at c_74
          refine g_iload_n (i := 2) rfl rfl ?_
          refine g_iconst (n := (-1)) rfl ?_
          have k_92 : (Int32.ofInt (-1)).toInt = (-1) := rfl
          refine g_icmp_eq 44 rfl rfl (fun c_91 => ?_) (fun c_91 => ?_)
          · skip
            rw [i_eq, k_92] at c_91
            refine g_aload_n (i := 0) rfl rfl ?_
            refine g_getfield (v := .int (m.1 3)) rfl M.1 (by decide) rfl ?_
            refine g_istore_n (i := 3) (L1 := [some (.ref 60), some (.int x), some (.int v), some (.int (m.1 3))]) rfl (Nat.le_of_ble_eq_true rfl) rfl ?_
            refine g_aload_n (i := 0) rfl rfl ?_
            refine g_iload_n (i := 2) rfl rfl ?_
            refine g_putfield (h1 := h.set 60 (mO (upd m.1 (2 + 1) v))) rfl M.1 (by decide) (Nat.le_of_ble_eq_true rfl) rfl rfl ?_
            refine g_goto 123 rfl rfl ?_
            refine g_iload_n (i := 3) rfl rfl ?_
            refine g_ireturn (ty := .int) rfl rfl rfl ?_
            exact Or.inl ⟨1, by omega, by omega, by omega, rfl, rfl⟩
          · skip
            rw [i_eq, k_92] at c_91
            refine g_aload_n (i := 0) rfl rfl ?_
            refine g_iload_n (i := 2) rfl rfl ?_
            refine g_virt1 (Qc := fun r h' => h' = h ∧ (((0 ≤ v.toInt ∧ v.toInt < ((W * H : Nat) : Int)) ∧ r = some (.int 1)) ∨ (¬ (0 ≤ v.toInt ∧ v.toInt < ((W * H : Nat) : Int)) ∧ r = some (.int 0)))) rfl (by decide) rfl M.1 rfl (Nat.le_of_ble_eq_true rfl) (s_isSq12 (by omega) M.1 g) (fun r h hq9 => ?_)
            obtain ⟨rfl, ⟨c_93, rfl⟩ | ⟨c_93, rfl⟩⟩ := hq9
            · skip
              refine g_if_eq 57 rfl rfl (fun hc => absurd hc (by decide)) (fun _ => ?_)
              refine g_aload_n (i := 0) rfl rfl ?_
              refine g_getfield (v := .int (m.1 3)) rfl M.1 (by decide) rfl ?_
              refine g_istore_n (i := 3) (L1 := [some (.ref 60), some (.int x), some (.int v), some (.int (m.1 3))]) rfl (Nat.le_of_ble_eq_true rfl) rfl ?_
              refine g_aload_n (i := 0) rfl rfl ?_
              refine g_iload_n (i := 2) rfl rfl ?_
              refine g_putfield (h1 := h.set 60 (mO (upd m.1 (2 + 1) v))) rfl M.1 (by decide) (Nat.le_of_ble_eq_true rfl) rfl rfl ?_
              refine g_goto 123 rfl rfl ?_
              refine g_iload_n (i := 3) rfl rfl ?_
              refine g_ireturn (ty := .int) rfl rfl rfl ?_
              exact Or.inl ⟨1, by omega, by omega, by omega, rfl, rfl⟩
            · skip
              refine g_if_eq 57 rfl rfl (fun _ => ?_) (fun hc => absurd hc (by decide))
              refine g_iload_n (i := 1) rfl rfl ?_
              refine g_iconst (n := 2) rfl ?_
              have k_95 : (Int32.ofInt 2).toInt = 2 := rfl
              refine g_icmp_ne 88 rfl rfl (fun c_94 => ?_) (fun c_94 => ?_)
              · skip
                rw [i_eq, k_95] at c_94
                refine g_iload_n (i := 1) rfl rfl ?_
                refine g_iconst (n := 3) rfl ?_
                have k_97 : (Int32.ofInt 3).toInt = 3 := rfl
                refine g_icmp_ne 116 rfl rfl (fun c_96 => ?_) (fun c_96 => ?_)
                · skip
                  rw [i_eq, k_97] at c_96
                  refine g_aload_n (i := 0) rfl rfl ?_
                  refine g_bipush (n := (-6)) rfl ?_
                  refine g_virt1 (Qc := fun r h' => r = some (.int (-16)) ∧ h' = h.set 61 (rFc (bump R 6))) rfl (by decide) rfl M.1 rfl (Nat.le_of_ble_eq_true rfl) (s_noTen2 (X := 6) (by omega) M.1 hR rfl (by decide)) (fun r h9 hq9 => ?_)
                  obtain ⟨rfl, rfl⟩ := hq9
                  refine g_ireturn (ty := .int) rfl rfl rfl ?_
                  exact Or.inr ⟨by omega, rfl, rfl⟩
                · skip
                  rw [i_eq, k_97] at c_96
                  refine g_iload_n (i := 2) rfl rfl ?_
                  refine g_if_lt 116 rfl rfl (fun c_98 => ?_) (fun c_98 => ?_)
                  · skip
                    rw [i_lt, k_2] at c_98
                    refine g_aload_n (i := 0) rfl rfl ?_
                    refine g_bipush (n := (-6)) rfl ?_
                    refine g_virt1 (Qc := fun r h' => r = some (.int (-16)) ∧ h' = h.set 61 (rFc (bump R 6))) rfl (by decide) rfl M.1 rfl (Nat.le_of_ble_eq_true rfl) (s_noTen2 (X := 6) (by omega) M.1 hR rfl (by decide)) (fun r h9 hq9 => ?_)
                    obtain ⟨rfl, rfl⟩ := hq9
                    refine g_ireturn (ty := .int) rfl rfl rfl ?_
                    exact Or.inr ⟨by omega, rfl, rfl⟩
                  · skip
                    rw [i_lt, k_2] at c_98
                    refine g_iload_n (i := 2) rfl rfl ?_
                    refine g_bipush (n := 20) rfl ?_
                    have k_100 : ((Int8.ofInt 20).toInt32).toInt = 20 := rfl
                    refine g_icmp_gt 116 rfl rfl (fun c_99 => ?_) (fun c_99 => ?_)
                    · skip
                      rw [i_lt, k_100] at c_99
                      refine g_aload_n (i := 0) rfl rfl ?_
                      refine g_bipush (n := (-6)) rfl ?_
                      refine g_virt1 (Qc := fun r h' => r = some (.int (-16)) ∧ h' = h.set 61 (rFc (bump R 6))) rfl (by decide) rfl M.1 rfl (Nat.le_of_ble_eq_true rfl) (s_noTen2 (X := 6) (by omega) M.1 hR rfl (by decide)) (fun r h9 hq9 => ?_)
                      obtain ⟨rfl, rfl⟩ := hq9
                      refine g_ireturn (ty := .int) rfl rfl rfl ?_
                      exact Or.inr ⟨by omega, rfl, rfl⟩
                    · skip
                      rw [i_lt, k_100] at c_99
                      refine g_aload_n (i := 0) rfl rfl ?_
                      refine g_getfield (v := .int (m.1 5)) rfl M.1 (by decide) rfl ?_
                      refine g_istore_n (i := 3) (L1 := [some (.ref 60), some (.int x), some (.int v), some (.int (m.1 5))]) rfl (Nat.le_of_ble_eq_true rfl) rfl ?_
                      refine g_aload_n (i := 0) rfl rfl ?_
                      refine g_iload_n (i := 2) rfl rfl ?_
                      refine g_putfield (h1 := h.set 60 (mO (upd m.1 (2 + 3) v))) rfl M.1 (by decide) (Nat.le_of_ble_eq_true rfl) rfl rfl ?_
                      refine g_goto 123 rfl rfl ?_
                      refine g_iload_n (i := 3) rfl rfl ?_
                      refine g_ireturn (ty := .int) rfl rfl rfl ?_
                      exact Or.inl ⟨3, by omega, by omega, by omega, rfl, rfl⟩
              · skip
                rw [i_eq, k_95] at c_94
                refine g_iload_n (i := 2) rfl rfl ?_
                refine g_iconst (n := (-1)) rfl ?_
                refine g_icmp_eq 75 rfl rfl (fun c_101 => ?_) (fun c_101 => ?_)
                · skip
                  rw [i_eq, k_92] at c_101
                  refine g_aload_n (i := 0) rfl rfl ?_
                  refine g_getfield (v := .int (m.1 4)) rfl M.1 (by decide) rfl ?_
                  refine g_istore_n (i := 3) (L1 := [some (.ref 60), some (.int x), some (.int v), some (.int (m.1 4))]) rfl (Nat.le_of_ble_eq_true rfl) rfl ?_
                  refine g_aload_n (i := 0) rfl rfl ?_
                  refine g_iload_n (i := 2) rfl rfl ?_
                  refine g_putfield (h1 := h.set 60 (mO (upd m.1 (2 + 2) v))) rfl M.1 (by decide) (Nat.le_of_ble_eq_true rfl) rfl rfl ?_
                  refine g_goto 123 rfl rfl ?_
                  refine g_iload_n (i := 3) rfl rfl ?_
                  refine g_ireturn (ty := .int) rfl rfl rfl ?_
                  exact Or.inl ⟨2, by omega, by omega, by omega, rfl, rfl⟩
                · skip
                  rw [i_eq, k_92] at c_101
                  refine g_aload_n (i := 0) rfl rfl ?_
                  refine g_iload_n (i := 2) rfl rfl ?_
                  refine g_virt1 (Qc := fun r h' => h' = h ∧ (((0 ≤ v.toInt ∧ v.toInt < ((W * H : Nat) : Int)) ∧ r = some (.int 1)) ∨ (¬ (0 ≤ v.toInt ∧ v.toInt < ((W * H : Nat) : Int)) ∧ r = some (.int 0)))) rfl (by decide) rfl M.1 rfl (Nat.le_of_ble_eq_true rfl) (s_isSq12 (by omega) M.1 g) (fun r h hq9 => ?_)
                  obtain ⟨rfl, ⟨c_102, rfl⟩ | ⟨c_102, rfl⟩⟩ := hq9
                  · skip
                    refine g_if_eq 88 rfl rfl (fun hc => absurd hc (by decide)) (fun _ => ?_)
                    refine g_aload_n (i := 0) rfl rfl ?_
                    refine g_getfield (v := .int (m.1 4)) rfl M.1 (by decide) rfl ?_
                    refine g_istore_n (i := 3) (L1 := [some (.ref 60), some (.int x), some (.int v), some (.int (m.1 4))]) rfl (Nat.le_of_ble_eq_true rfl) rfl ?_
                    refine g_aload_n (i := 0) rfl rfl ?_
                    refine g_iload_n (i := 2) rfl rfl ?_
                    refine g_putfield (h1 := h.set 60 (mO (upd m.1 (2 + 2) v))) rfl M.1 (by decide) (Nat.le_of_ble_eq_true rfl) rfl rfl ?_
                    refine g_goto 123 rfl rfl ?_
                    refine g_iload_n (i := 3) rfl rfl ?_
                    refine g_ireturn (ty := .int) rfl rfl rfl ?_
                    exact Or.inl ⟨2, by omega, by omega, by omega, rfl, rfl⟩
                  · skip
                    refine g_if_eq 88 rfl rfl (fun _ => ?_) (fun hc => absurd hc (by decide))
                    refine g_iload_n (i := 1) rfl rfl ?_
                    refine g_iconst (n := 3) rfl ?_
                    have k_104 : (Int32.ofInt 3).toInt = 3 := rfl
                    refine g_icmp_ne 116 rfl rfl (fun c_103 => ?_) (fun c_103 => ?_)
                    · skip
                      rw [i_eq, k_104] at c_103
                      refine g_aload_n (i := 0) rfl rfl ?_
                      refine g_bipush (n := (-6)) rfl ?_
                      refine g_virt1 (Qc := fun r h' => r = some (.int (-16)) ∧ h' = h.set 61 (rFc (bump R 6))) rfl (by decide) rfl M.1 rfl (Nat.le_of_ble_eq_true rfl) (s_noTen2 (X := 6) (by omega) M.1 hR rfl (by decide)) (fun r h9 hq9 => ?_)
                      obtain ⟨rfl, rfl⟩ := hq9
                      refine g_ireturn (ty := .int) rfl rfl rfl ?_
                      exact Or.inr ⟨by omega, rfl, rfl⟩
                    · skip
                      rw [i_eq, k_104] at c_103
                      refine g_iload_n (i := 2) rfl rfl ?_
                      refine g_if_lt 116 rfl rfl (fun c_105 => ?_) (fun c_105 => ?_)
                      · skip
                        rw [i_lt, k_2] at c_105
                        refine g_aload_n (i := 0) rfl rfl ?_
                        refine g_bipush (n := (-6)) rfl ?_
                        refine g_virt1 (Qc := fun r h' => r = some (.int (-16)) ∧ h' = h.set 61 (rFc (bump R 6))) rfl (by decide) rfl M.1 rfl (Nat.le_of_ble_eq_true rfl) (s_noTen2 (X := 6) (by omega) M.1 hR rfl (by decide)) (fun r h9 hq9 => ?_)
                        obtain ⟨rfl, rfl⟩ := hq9
                        refine g_ireturn (ty := .int) rfl rfl rfl ?_
                        exact Or.inr ⟨by omega, rfl, rfl⟩
                      · skip
                        rw [i_lt, k_2] at c_105
                        refine g_iload_n (i := 2) rfl rfl ?_
                        refine g_bipush (n := 20) rfl ?_
                        have k_107 : ((Int8.ofInt 20).toInt32).toInt = 20 := rfl
                        refine g_icmp_gt 116 rfl rfl (fun c_106 => ?_) (fun c_106 => ?_)
                        · skip
                          rw [i_lt, k_107] at c_106
                          refine g_aload_n (i := 0) rfl rfl ?_
                          refine g_bipush (n := (-6)) rfl ?_
                          refine g_virt1 (Qc := fun r h' => r = some (.int (-16)) ∧ h' = h.set 61 (rFc (bump R 6))) rfl (by decide) rfl M.1 rfl (Nat.le_of_ble_eq_true rfl) (s_noTen2 (X := 6) (by omega) M.1 hR rfl (by decide)) (fun r h9 hq9 => ?_)
                          obtain ⟨rfl, rfl⟩ := hq9
                          refine g_ireturn (ty := .int) rfl rfl rfl ?_
                          exact Or.inr ⟨by omega, rfl, rfl⟩
                        · skip
                          rw [i_lt, k_107] at c_106
                          refine g_aload_n (i := 0) rfl rfl ?_
                          refine g_getfield (v := .int (m.1 5)) rfl M.1 (by decide) rfl ?_
                          refine g_istore_n (i := 3) (L1 := [some (.ref 60), some (.int x), some (.int v), some (.int (m.1 5))]) rfl (Nat.le_of_ble_eq_true rfl) rfl ?_
                          refine g_aload_n (i := 0) rfl rfl ?_
                          refine g_iload_n (i := 2) rfl rfl ?_
                          refine g_putfield (h1 := h.set 60 (mO (upd m.1 (2 + 3) v))) rfl M.1 (by decide) (Nat.le_of_ble_eq_true rfl) rfl rfl ?_
                          refine g_goto 123 rfl rfl ?_
                          refine g_iload_n (i := 3) rfl rfl ?_
                          refine g_ireturn (ty := .int) rfl rfl rfl ?_
                          exact Or.inl ⟨3, by omega, by omega, by omega, rfl, rfl⟩
      · skip
        rw [i_le, k_73] at c_72
        refine g_aload_n (i := 0) rfl rfl ?_
        refine g_getfield (v := .int (m.1 2)) rfl M.1 (by decide) rfl ?_
        refine g_istore_n (i := 3) (L1 := [some (.ref 60), some (.int x), some (.int v), some (.int (m.1 2))]) rfl (Nat.le_of_ble_eq_true rfl) rfl ?_
        refine g_aload_n (i := 0) rfl rfl ?_
        refine g_iload_n (i := 2) rfl rfl ?_
        refine g_putfield (h1 := h.set 60 (mO (upd m.1 (2 + 0) v))) rfl M.1 (by decide) (Nat.le_of_ble_eq_true rfl) rfl rfl ?_
        refine g_goto 123 rfl rfl ?_
        refine g_iload_n (i := 3) rfl rfl ?_
        refine g_ireturn (ty := .int) rfl rfl rfl ?_
        exact Or.inl ⟨0, by omega, by omega, by omega, rfl, rfl⟩
theorem s_heir12 {d : Nat} {h : sHp} {m : MF} {R : Nat → Int32} {N : Nat} {x : Int32} (hd : 2 ≤ d) (M : MC h m) (hR : h[61]? = some (rFc R)) (hI : m.1 6 = Int32.ofNat N) (hN : N ≤ 5) : sDo d 207 [.ref 60, .int x] h (fun r h' => ((1 ≤ x.toInt ∧ x.toInt ≤ 9) ∧ N < 5 ∧ r = some (.int (Int32.ofNat N)) ∧ MC h' (mfHeir N x m) ∧ mE h h') ∨ ((1 ≤ x.toInt ∧ x.toInt ≤ 9) ∧ N = 5 ∧ r = some (.int (-7)) ∧ h' = h.set 61 (rFc (bump R 7))) ∨ (¬ (1 ≤ x.toInt ∧ x.toInt ≤ 9) ∧ r = some (.int (-6)) ∧ h' = h.set 61 (rFc (bump R 6)))) := by
  have e11 : (m.1 6).toInt = ((N : Nat) : Int) := by rw [hI]; exact ofN_toInt (by omega)
  refine sDo_of1 (nL := 2) (L := [some (.ref 60), some (.int x)]) (by omega) rfl rfl ?_
  refine g_iload_n (i := 1) rfl rfl ?_
  refine g_iconst (n := 1) rfl ?_
  have k_2 : (Int32.ofInt 1).toInt = 1 := rfl
  refine g_icmp_lt 11 rfl rfl (fun c_1 => ?_) (fun c_1 => ?_)
  · skip
    rw [i_lt, k_2] at c_1
    refine g_aload_n (i := 0) rfl rfl ?_
    refine g_bipush (n := (-6)) rfl ?_
    refine g_virt1 (Qc := fun r h' => r = some (.int ((Int8.ofInt (-6)).toInt32)) ∧ h' = h.set 61 (rFc (bump R 6))) rfl (by decide) rfl M.1 rfl (Nat.le_of_ble_eq_true rfl) (s_no2 (X := 6) (by omega) M.1 hR rfl (by decide)) (fun r h9 hq9 => ?_)
    obtain ⟨rfl, rfl⟩ := hq9
    refine g_ireturn (ty := .int) rfl rfl rfl ?_
    exact Or.inr (Or.inr ⟨by omega, rfl, rfl⟩)
  · skip
    rw [i_lt, k_2] at c_1
    refine g_iload_n (i := 1) rfl rfl ?_
    refine g_bipush (n := 9) rfl ?_
    have k_4 : ((Int8.ofInt 9).toInt32).toInt = 9 := rfl
    refine g_icmp_le 18 rfl rfl (fun c_3 => ?_) (fun c_3 => ?_)
    · skip
      rw [i_le, k_4] at c_3
      refine g_aload_n (i := 0) rfl rfl ?_
      refine g_getfield (v := .int (m.1 6)) rfl M.1 (by decide) rfl ?_
      refine g_iconst (n := 5) rfl ?_
      have k_6 : (Int32.ofInt 5).toInt = 5 := rfl
      refine g_icmp_ne 35 rfl rfl (fun c_5 => ?_) (fun c_5 => ?_)
      · skip
        rw [i_eq, e11, k_6] at c_5
        refine g_aload_n (i := 0) rfl rfl ?_
        refine g_iload_n (i := 1) rfl rfl ?_
        refine g_virt1 (Qc := fun r h' => r = some (.int (Int32.ofNat N)) ∧ MC h' (mfHeir N x m) ∧ mE h h') rfl (by decide) rfl M.1 rfl (Nat.le_of_ble_eq_true rfl) (sDo_up (d := 1) (by omega) (s_comesE (d := 0) M hI (by omega))) (fun r h9 hq9 => ?_)
        obtain ⟨rfl, q1, q2⟩ := hq9
        refine g_ireturn (ty := .int) rfl rfl rfl ?_
        exact Or.inl ⟨by omega, by omega, rfl, q1, q2⟩
      · skip
        rw [i_eq, e11, k_6] at c_5
        refine g_aload_n (i := 0) rfl rfl ?_
        refine g_bipush (n := (-7)) rfl ?_
        refine g_virt1 (Qc := fun r h' => r = some (.int ((Int8.ofInt (-7)).toInt32)) ∧ h' = h.set 61 (rFc (bump R 7))) rfl (by decide) rfl M.1 rfl (Nat.le_of_ble_eq_true rfl) (s_no2 (X := 7) (by omega) M.1 hR rfl (by decide)) (fun r h9 hq9 => ?_)
        obtain ⟨rfl, rfl⟩ := hq9
        refine g_goto 40 rfl rfl ?_
        refine g_ireturn (ty := .int) rfl rfl rfl ?_
        exact Or.inr (Or.inl ⟨by omega, by omega, rfl, rfl⟩)
    · skip
      rw [i_le, k_4] at c_3
      refine g_aload_n (i := 0) rfl rfl ?_
      refine g_bipush (n := (-6)) rfl ?_
      refine g_virt1 (Qc := fun r h' => r = some (.int ((Int8.ofInt (-6)).toInt32)) ∧ h' = h.set 61 (rFc (bump R 6))) rfl (by decide) rfl M.1 rfl (Nat.le_of_ble_eq_true rfl) (s_no2 (X := 6) (by omega) M.1 hR rfl (by decide)) (fun r h9 hq9 => ?_)
      obtain ⟨rfl, rfl⟩ := hq9
      refine g_ireturn (ty := .int) rfl rfl rfl ?_
      exact Or.inr (Or.inr ⟨by omega, rfl, rfl⟩)
end
section
/-! ===== field of the class ===== -/
theorem s_init64E {d : Nat} {h : sHp} {rp tp : Nat} {fs : List Value} (hd : 1 ≤ d) (hr : h[rp]? = some (.inr (6, fs))) (hl : fs.length = 4) : sDo d 64 [.ref rp, .ref tp, .ref 27] h (fun r h' => r = none ∧ h' = h.set rp (rd tp (Int32.ofInt (-1)) 0)) := by
  match fs, hl, hr with
  | [v0, v1, v2, v3], _, hr =>
    have at_ : ∀ l, (h.set rp (.inr (6, l)))[rp]? = some (.inr (6, l)) := fun _ => s_set_eq hr
    refine sDo_of1 (nL := 3) (L := [some (.ref rp), some (.ref tp), some (.ref 27)]) hd rfl rfl ?_
    refine g_aload_n (i := 0) rfl rfl ?_
    refine g_objinit rfl (Nat.le_of_ble_eq_true rfl) ?_
    refine g_aload_n (i := 0) rfl rfl ?_
    refine g_iconst (n := (-1)) rfl ?_
    refine g_putfield (h1 := h.set rp (.inr (6, [(.int (Int32.ofInt (-1))), (v1), (v2), (v3)]))) rfl hr (by decide) (Nat.le_of_ble_eq_true rfl) rfl rfl ?_
    refine g_aload_n (i := 0) rfl rfl ?_
    refine g_iconst (n := 0) rfl ?_
    refine g_putfield (h1 := h.set rp (.inr (6, [(.int (Int32.ofInt (-1))), (v1), (v2), (.int (Int32.ofInt 0))]))) rfl (at_ _) (by decide) (Nat.le_of_ble_eq_true rfl) rfl (by rw [List.set_set]; rfl) ?_
    refine g_aload_n (i := 0) rfl rfl ?_
    refine g_aload_n (i := 1) rfl rfl ?_
    refine g_putfield (h1 := h.set rp (.inr (6, [(.int (Int32.ofInt (-1))), (.ref tp), (v2), (.int (Int32.ofInt 0))]))) rfl (at_ _) (by decide) (Nat.le_of_ble_eq_true rfl) rfl (by rw [List.set_set]; rfl) ?_
    refine g_aload_n (i := 0) rfl rfl ?_
    refine g_aload_n (i := 2) rfl rfl ?_
    refine g_putfield (h1 := h.set rp (.inr (6, [(.int (Int32.ofInt (-1))), (.ref tp), (.ref 27), (.int (Int32.ofInt 0))]))) rfl (at_ _) (by decide) (Nat.le_of_ble_eq_true rfl) rfl (by rw [List.set_set]; rfl) ?_
    refine g_return rfl rfl ?_
    exact ⟨rfl, rfl⟩
theorem s_readItems {d : Nat} {h : sHp} {rp tp ep n : Nat} {ot flt : Int32} {el : Nat → Int64} {c : CF} {s : Sg} (hd : 8 ≤ d) (hn : n ≤ 100) (h1 : 79 ≤ rp) (h2 : 44 ≤ tp ∧ tp < 60) (h3 : 44 ≤ ep ∧ ep < 60) (hs : sgI c s) (hr : h[rp]? = some (rd tp flt 0)) (ht : h[tp]? = some (.inr (7, [.int ot, .int (Int32.ofNat n), .ref ep]))) (he : h[ep]? = some (.inl (1, 100, .inr (.inl el)))) (F : FC h 27 c) : sDo d 65 [.ref rp] h (qIt rp tp flt h c 0 (itsS (tx el n) n 101 s 0)) := by
  have key := s_readItems_go (d := d - 1) (h0 := h) (flt := flt) hn h1 h2 h3 (by omega) 101 0 0 h c s (by omega) (by omega) (by omega) hs hr ht he F gE_rfl
  refine sDo_of1 (nL := 2) (L := [some (.ref rp), none]) (by omega) rfl rfl ?_
  refine g_iconst (n := 0) rfl ?_
  refine g_istore_n (i := 1) (L1 := [some (.ref rp), some (.int (Int32.ofInt 0))]) rfl (Nat.le_of_ble_eq_true rfl) rfl ?_
  exact key
/-- what field leaves: the parts that it doesn't touch -/
def fdE (h h' : sHp) (lo : Nat) : Prop := h.length ≤ h'.length ∧ ∀ q, (q < lo ∨ 15 < q) → (q < 27 ∨ 37 < q) → q ≠ 0 → q ≠ 43 → q < h.length → h'[q]? = h[q]?
def qF11 (h : sHp) (c cd : CF) (ik : Int32) (q : Option (Nat × List Act)) (r : Option Value) (h' : sHp) : Prop := match q with
  | some (k, as) => r = some (.int (Int32.ofNat k)) ∧ FC h' 5 (cfBecome (as.foldl cfDo (cfBecome c cd)) c) ∧ h'[0]? = some (cO ik (-1)) ∧ fdE h h' 5
  | none => r = some (.int (-6)) ∧ (∃ tf, h'[0]? = some (cO ik tf)) ∧ fdE h h' 16
theorem s_field11 {d : Nat} {h : sHp} {ik tf : Int32} {R : Nat → Int32} {c cd : CF} {f : Nat → Option Nat} {S n : Nat} {x ot : Int32} {el : Nat → Int64} {s : Sg} (hd : 9 ≤ d) (h79 : 79 ≤ h.length) (h0 : h[0]? = some (cO ik tf)) (hR : h[43]? = some (rFc R)) (F : FC h 5 c) (Fd : FC h 27 cd) (fb : ∀ k, k < 5 → c.2.2.2.2.2.1 k = 0 ∨ c.2.2.2.2.2.1 k = 1) (fbd : ∀ as : List Act, ∀ k, k < 5 → (as.foldl cfDo (cfBecome c cd)).2.2.2.2.2.1 k = 0 ∨ (as.foldl cfDo (cfBecome c cd)).2.2.2.2.2.1 k = 1) (hn : n ≤ 100) (hS : S < 8) (hx : x.toInt = S) (h1 : h[1]? = some (.inl (3, 8, .inr (.inr (.inr (.inr f)))))) (hf : f S = some (44 + 2 * S)) (ht : h[44 + 2 * S]? = some (.inr (7, [.int ot, .int (Int32.ofNat n), .ref (45 + 2 * S)]))) (he : h[45 + 2 * S]? = some (.inl (1, 100, .inr (.inl el)))) (hs : sgI (cfBecome c cd) s) (hno : sDo (d - 1) 161 [.ref 0, .int x] h (fun r h' => h' = h ∧ r = some (.int 0))) : sDo d 122 [.ref 0, .int x] h (qF11 h c cd ik (itsS (tx el n) n 101 s 0)) := by
  refine sDo_of1 (nL := 5) (L := [some (.ref 0), some (.int x), none, none, none]) (by omega) rfl rfl ?_
  refine g_aload_n (i := 0) rfl rfl ?_
  refine g_iload_n (i := 1) rfl rfl ?_
  refine g_virt1 (Qc := fun r h' => h' = h ∧ r = some (.int 0)) rfl (by decide) rfl h0 rfl (Nat.le_of_ble_eq_true rfl) (hno) (fun r h hq9 => ?_)
  obtain ⟨rfl, rfl⟩ := hq9
  refine g_istore_n (i := 2) (L1 := [some (.ref 0), some (.int x), some (.int 0), none, none]) rfl (Nat.le_of_ble_eq_true rfl) rfl ?_
  refine g_iload_n (i := 2) rfl rfl ?_
  refine g_if_eq 16 rfl rfl (fun _ => ?_) (fun hc => absurd hc (by decide))
  refine g_aload_n (i := 0) rfl rfl ?_
  refine g_getfield (v := .ref 27) rfl h0 (by decide) rfl ?_
  refine g_aload_n (i := 0) rfl rfl ?_
  refine g_getfield (v := .ref 5) rfl h0 (by decide) rfl ?_
  refine g_virt1 (Qc := fun r h' => r = none ∧ FC h' 27 (cfBecome c cd) ∧ fE 27 h h') rfl (by decide) rfl Fd.1 rfl (Nat.le_of_ble_eq_true rfl) (sDo_up (d := 1) (by omega) (s_become (d := 0) Fd F (by omega) fb)) (fun r h9 hq9 => ?_)
  obtain ⟨rfl, q1, q2⟩ := hq9
  have e0 := (q2.2 0 (by omega)).trans h0
  have e1 := (q2.2 1 (by omega)).trans h1
  have l9 := q2.1
  have fS : va_rf (f x.toNatClampNeg) = .ref (44 + 2 * S) := by rw [i_nat hx, hf]; rfl
  have a1 : (h9 ++ [(Sum.inr (6, sDef 6) : va_E)])[1]? = some (.inl (3, 8, .inr (.inr (.inr (.inr f))))) := s_app_lt e1
  have a0 : (h9 ++ [(Sum.inr (6, sDef 6) : va_E)])[0]? = some (cO ik tf) := s_app_lt e0
  refine g_new rfl (by decide) ?_
  refine g_dup rfl rfl ?_
  refine g_aload_n (i := 0) rfl rfl ?_
  refine g_getfield (v := .ref 1) rfl a0 (by decide) rfl ?_
  refine g_iload_n (i := 1) rfl rfl ?_
  refine g_aaload rfl a1 (by decide) (i_in (by omega) (by omega)) ?_
  rw [fS]
  refine g_aload_n (i := 0) rfl rfl ?_
  refine g_getfield (v := .ref 27) rfl a0 (by decide) rfl ?_
  refine g_init2 (Qc := fun r h' => r = none ∧ h' = List.set (h9 ++ [(Sum.inr (6, sDef 6) : va_E)] : sHp) h9.length (rd (44 + 2 * S) (Int32.ofInt (-1)) 0)) rfl (by decide) rfl (s_app_at _ _) (Nat.le_of_ble_eq_true rfl) (s_init64E (by omega) (s_app_at _ _) rfl) (fun r h8 hq9 => ?_)
  obtain ⟨rfl, rfl⟩ := hq9
  rw [s_app_set]
  have G1 : FC (h9 ++ [rd (44 + 2 * S) (Int32.ofInt (-1)) 0]) 27 (cfBecome c cd) := by
    obtain ⟨b0, b1, b2, ⟨w, b3, b4⟩, b5, b6, b7⟩ := q1
    exact ⟨s_app_lt b0, s_app_lt b1, s_app_lt b2, ⟨w, s_app_lt b3, b4⟩, fun k hk => s_app_lt (b5 k hk), s_app_lt b6, s_app_lt b7⟩
  have r1 : (h9 ++ [rd (44 + 2 * S) (Int32.ofInt (-1)) 0])[h9.length]? = some (rd (44 + 2 * S) (Int32.ofInt (-1)) 0) := s_app_at _ _
  have t1 : (h9 ++ [rd (44 + 2 * S) (Int32.ofInt (-1)) 0])[44 + 2 * S]? = some (.inr (7, [.int ot, .int (Int32.ofNat n), .ref (45 + 2 * S)])) := s_app_lt ((q2.2 _ (by omega)).trans ht)
  have t2 : (h9 ++ [rd (44 + 2 * S) (Int32.ofInt (-1)) 0])[45 + 2 * S]? = some (.inl (1, 100, .inr (.inl el))) := s_app_lt ((q2.2 _ (by omega)).trans he)
  have hit := s_readItems (d := d - 1) (by omega) hn (by omega) (by omega) (by omega) hs r1 t1 t2 G1
  have fdl : ∀ q, q < h.length → (q < 27 ∨ 37 < q) → (h9 ++ [rd (44 + 2 * S) (Int32.ofInt (-1)) 0])[q]? = h[q]? := fun q hq hq2 => by
    rw [List.getElem?_append_left (by omega)]; exact q2.2 q hq2
  have p0 := (fdl 0 (by omega) (by omega)).trans h0
  have p43 := (fdl 43 (by omega) (by omega)).trans hR
  have ll : (h9 ++ [rd (44 + 2 * S) (Int32.ofInt (-1)) 0]).length = h.length + 1 := by rw [List.length_append]; show h9.length + 1 = _; omega
  have F9 : FC (h9 ++ [rd (44 + 2 * S) (Int32.ofInt (-1)) 0]) 5 c := by
    obtain ⟨b0, b1, b2, ⟨w, b3, b4⟩, b5, b6, b7⟩ := FC_fr F q2 (by omega)
    exact ⟨s_app_lt b0, s_app_lt b1, s_app_lt b2, ⟨w, s_app_lt b3, b4⟩, fun k hk => s_app_lt (b5 k hk), s_app_lt b6, s_app_lt b7⟩
  generalize h9 ++ [rd (44 + 2 * S) (Int32.ofInt (-1)) 0] = h3 at G1 r1 t1 t2 hit fdl p0 p43 ll F9 ⊢
  refine g_astore_n (i := 3) (L1 := [some (.ref 0), some (.int x), some (.int 0), some (.ref h9.length), none]) rfl (Nat.le_of_ble_eq_true rfl) rfl ?_
  refine g_aload_n (i := 3) rfl rfl ?_
  refine g_virt0 rfl (by decide) rfl r1 rfl (Nat.le_of_ble_eq_true rfl) hit (fun r h7 hq => ?_)
  cases hi : itsS (tx el n) n 101 s 0 with
  | none =>
    rw [hi] at hq
    obtain ⟨⟨y, rfl⟩, Fl, A1, hF1, hr1, G2⟩ := hq
    have o0 := (G2.2 0 (by omega) (by omega)).trans p0
    have o43 := (G2.2 43 (by omega) (by omega)).trans p43
    have eF := ofN_toInt (n := Fl) (by omega)
    have em : (Int32.ofInt (-1)).toInt = -1 := rfl
    refine g_istore (i := 4) (L1 := [some (.ref 0), some (.int x), some (.int 0), some (.ref h9.length), some (.int y)]) rfl (Nat.le_of_ble_eq_true rfl) rfl ?_
    refine g_aload_n (i := 0) rfl rfl ?_
    refine g_aload_n (i := 3) rfl rfl ?_
    refine g_getfield (v := .int (Int32.ofNat Fl)) rfl hr1 (by decide) rfl ?_
    refine g_putfield (h1 := h7.set 0 (cO ik (Int32.ofNat Fl))) rfl o0 (by decide) (Nat.le_of_ble_eq_true rfl) rfl rfl ?_
    have z0 : (h7.set 0 (cO ik (Int32.ofNat Fl)))[0]? = some (cO ik (Int32.ofNat Fl)) := s_set_eq o0
    refine g_aload_n (i := 0) rfl rfl ?_
    refine g_getfield (v := .int (Int32.ofNat Fl)) rfl z0 (by decide) rfl ?_
    refine g_iconst (n := (-1)) rfl ?_
    refine g_icmp_eq 74 rfl rfl (fun hc => absurd hc (by intro z; rw [z, em] at eF; omega)) (fun _ => ?_)
    refine g_aload_n (i := 0) rfl rfl ?_
    refine g_bipush (n := (-6)) rfl ?_
    refine g_virt1 (Qc := fun r h' => r = some (.int (-6)) ∧ h' = (h7.set 0 (cO ik (Int32.ofNat Fl))).set 43 (rFc (bump R 6))) rfl (by decide) rfl z0 rfl (Nat.le_of_ble_eq_true rfl) (s_refuse2 (X := 6) (R := R) (by omega) z0 (by rw [s_set_ne (by omega)]; exact o43) rfl (by decide)) (fun r h6 hq9 => ?_)
    obtain ⟨rfl, rfl⟩ := hq9
    refine g_ireturn (ty := .int) rfl rfl rfl ?_
    refine ⟨rfl, ⟨_, by rw [s_set_ne (by omega)]; exact z0⟩, ?_, fun q e1 e2 e3 e4 e5 => ?_⟩
    · have := G2.1; rw [List.length_set, List.length_set]; omega
    · rw [s_set_ne (by omega), s_set_ne (by omega), G2.2 q (by omega) (by omega)]
      exact fdl q e5 (by omega)
  | some kb =>
    obtain ⟨k, as⟩ := kb
    rw [hi] at hq
    obtain ⟨rfl, ⟨A1, hr1⟩, G3, G2⟩ := hq
    have o0 := (G2.2 0 (by omega) (by omega)).trans p0
    refine g_istore (i := 4) (L1 := [some (.ref 0), some (.int x), some (.int 0), some (.ref h9.length), some (.int (Int32.ofNat (0 + k)))]) rfl (Nat.le_of_ble_eq_true rfl) rfl ?_
    refine g_aload_n (i := 0) rfl rfl ?_
    refine g_aload_n (i := 3) rfl rfl ?_
    refine g_getfield (v := .int (Int32.ofInt (-1))) rfl hr1 (by decide) rfl ?_
    refine g_putfield (h1 := h7.set 0 (cO ik (Int32.ofInt (-1)))) rfl o0 (by decide) (Nat.le_of_ble_eq_true rfl) rfl rfl ?_
    have z0 : (h7.set 0 (cO ik (Int32.ofInt (-1))))[0]? = some (cO ik (Int32.ofInt (-1))) := s_set_eq o0
    have G4 := FC_out (q := 0) (x := cO ik (Int32.ofInt (-1))) G3 (by omega)
    have F7 : FC h7 5 c := by
      obtain ⟨b0, b1, b2, ⟨w, b3, b4⟩, b5, b6, b7⟩ := F9
      have ge := G2.2
      exact ⟨(ge _ (by omega) (by omega)).trans b0, (ge _ (by omega) (by omega)).trans b1, (ge _ (by omega) (by omega)).trans b2, ⟨w, (ge _ (by omega) (by omega)).trans b3, b4⟩, fun k hk => (ge _ (by omega) (by omega)).trans (b5 k hk), (ge _ (by omega) (by omega)).trans b6, (ge _ (by omega) (by omega)).trans b7⟩
    have F8 := FC_out (q := 0) (x := cO ik (Int32.ofInt (-1))) F7 (by omega)
    refine g_aload_n (i := 0) rfl rfl ?_
    refine g_getfield (v := .int (Int32.ofInt (-1))) rfl z0 (by decide) rfl ?_
    refine g_iconst (n := (-1)) rfl ?_
    refine g_icmp_eq 74 rfl rfl (fun _ => ?_) (fun hc => absurd hc (by exact fun z => z rfl))
    refine g_aload_n (i := 0) rfl rfl ?_
    refine g_getfield (v := .ref 5) rfl z0 (by decide) rfl ?_
    refine g_aload_n (i := 0) rfl rfl ?_
    refine g_getfield (v := .ref 27) rfl z0 (by decide) rfl ?_
    refine g_virt1 (Qc := fun r h' => r = none ∧ FC h' 5 (cfBecome (as.foldl cfDo (cfBecome c cd)) c) ∧ fE 5 (h7.set 0 (cO ik (Int32.ofInt (-1)))) h') rfl (by decide) rfl F8.1 rfl (Nat.le_of_ble_eq_true rfl) (sDo_up (d := 1) (by omega) (s_become (d := 0) F8 G4 (by omega) (fbd as))) (fun r h6 hq9 => ?_)
    obtain ⟨rfl, w1, w2⟩ := hq9
    have z6 := (w2.2 0 (by omega)).trans z0
    refine g_iload (i := 4) rfl rfl ?_
    refine g_ireturn (ty := .int) rfl rfl rfl ?_
    refine ⟨by rw [Nat.zero_add], w1, z6, ?_, fun q e1 e2 e3 e4 e5 => ?_⟩
    · have := w2.1; have := G2.1; rw [List.length_set] at *; omega
    · rw [w2.2 q (by omega), s_set_ne (by omega), G2.2 q (by omega) (by omega)]
      exact fdl q e5 (by omega)
end
