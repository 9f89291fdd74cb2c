/-! ===== squares beside, pieces ===== -/
def adj (W n q i : Nat) : Prop := (i + 1 = q ∧ 0 < q % W) ∨ (i = q + 1 ∧ q % W + 1 < W) ∨ (i + W = q) ∨ (i = q + W ∧ i < n)
def nbP (W n : Nat) (x : Int64) (k i : Nat) : Prop := ∃ q, q < k ∧ bt x q = true ∧ adj W n q i
theorem nbP_s {W n : Nat} {x : Int64} {k i : Nat} : nbP W n x (k + 1) i ↔ nbP W n x k i ∨ (bt x k = true ∧ adj W n k i) := by
  constructor
  · rintro ⟨q, h1, h2, h3⟩
    by_cases e : q = k
    · subst e; exact Or.inr ⟨h2, h3⟩
    · exact Or.inl ⟨q, by omega, h2, h3⟩
  · rintro (⟨q, h1, h2, h3⟩ | ⟨h2, h3⟩)
    · exact ⟨q, by omega, h2, h3⟩
    · exact ⟨k, by omega, h2, h3⟩
theorem nxt_in : ∀ W, W < 9 → ∀ H, H < 9 → ∀ q, q < 64 → q < W * H → q % W + 1 < W → q + 1 < W * H := by decide +kernel
/-- bits by a proposition -/
def bp (s : Int64) (P : Nat → Prop) : Prop := ∀ i, i < 64 → (bt s i = true ↔ P i)
theorem bp_or1 {s : Int64} {P : Nat → Prop} {k : Nat} (h : bp s P) (hk : k < 64) : bp (s ||| (Int64.ofNat 1 <<< ((Int32.ofNat k).toInt64 &&& 63))) (fun i => P i ∨ i = k) := fun i hi => by
  rw [bt_or, bt_one hk, Bool.or_eq_true, h i hi, decide_eq_true_eq]
theorem bp_0 {P : Nat → Prop} (h : ∀ i, ¬ P i) : bp (Int64.ofNat 0) P := fun i _ => by
  rw [bt_0]; exact ⟨fun z => absurd z (by decide), fun z => absurd z (h i)⟩
theorem bp_im {s : Int64} {P P' : Nat → Prop} (h : bp s P) (e : ∀ i, i < 64 → (P i ↔ P' i)) : bp s P' := fun i hi => (h i hi).trans (e i hi)
theorem bp_ext {s t : Int64} {P : Nat → Prop} (h : bp s P) (g : bp t P) : s = t := bt_ext (fun i hi => Bool.eq_iff_iff.mpr ((h i hi).trans (g i hi).symm))
noncomputable def stC (P : Nat → Prop) : Int64 := @stO (fun i => @decide (P i) (Classical.propDecidable _)) 64
theorem bp_stC (P : Nat → Prop) : bp (stC P) P := fun i hi => by
  unfold stC
  rw [bt_stO _ 64 (by omega), decide_eq_true hi, Bool.true_and]
  exact @decide_eq_true_iff _ (Classical.propDecidable _)
noncomputable def besS (W n : Nat) (x : Int64) : Int64 := stC (nbP W n x n)
theorem s_beside_go {d : Nat} {h : sHp} {J : Nat → Int32} {W H : Nat} {x : Int64} (hd : 1 ≤ d) (hr : h[60]? = some (mO J)) (g : gdM J W H) : ∀ (f k : Nat) (s : Int64), k + f = W * H → bp s (nbP W (W * H) x k) → sGo none 222 d 5 [some (.ref 60), some (.long x), none, some (.long s), none, some (.int (Int32.ofNat k))] [] h (fun r h' => h' = h ∧ r = some (.long (besS W (W * H) x))) := by
  have gd := g
  obtain ⟨gw, gh, w2, w8, h2, h8⟩ := gd
  have hn := gdM_n g
  have hw0 : (J 0).toInt = ((W : Nat) : Int) := by rw [gw]; exact ofN_toInt (by omega)
  have hw1 : (J 1).toInt = ((H : Nat) : Int) := by rw [gh]; exact ofN_toInt (by omega)
  have hwn : (J 0 * J 1).toInt = ((W * H : Nat) : Int) := n_mul hw0 hw1 (by omega)
  intro f
  induction f with
  | zero =>
    intro k s hk hs
    have ek := ofN_toInt (n := k) (by omega)
    refine g_iload (i := 5) rfl rfl ?_
    refine g_aload_n (i := 0) rfl rfl ?_
    refine g_getfield (v := .int (J 0)) rfl hr (by decide) rfl ?_
    refine g_aload_n (i := 0) rfl rfl ?_
    refine g_getfield (v := .int (J 1)) rfl hr (by decide) rfl ?_
    refine g_imul rfl ?_
    refine g_icmp_ge 134 rfl rfl (fun _ => ?_) (fun hc => absurd hc (by rw [i_le, hwn, ek]; omega))
    refine g_lload_n (i := 3) rfl rfl ?_
    refine g_lreturn rfl rfl ?_
    exact ⟨rfl, by rw [bp_ext (show bp s (nbP W (W * H) x (W * H)) from (show k = W * H by omega) ▸ hs) (bp_stC _)]; rfl⟩
  | succ f ih =>
    intro k s hk hs
    have ek := ofN_toInt (n := k) (by omega)
    have a4 := n_rem ek hw0 (by omega)
    have hml := Nat.mod_lt k (show W > 0 by omega)
    have hmk := Nat.mod_le k W
    have hni := nxt_in W (by omega) H (by omega) k (by omega) (by omega)
    refine g_iload (i := 5) rfl rfl ?_
    refine g_aload_n (i := 0) rfl rfl ?_
    refine g_getfield (v := .int (J 0)) rfl hr (by decide) rfl ?_
    refine g_aload_n (i := 0) rfl rfl ?_
    refine g_getfield (v := .int (J 1)) rfl hr (by decide) rfl ?_
    refine g_imul rfl ?_
    refine g_icmp_ge 134 rfl rfl (fun hc => absurd hc (by rw [i_le, hwn, ek]; omega)) (fun _ => ?_)
    refine g_aload_n (i := 0) rfl rfl ?_
    refine g_lload_n (i := 1) rfl rfl ?_
    refine g_iload (i := 5) rfl rfl ?_
    refine g_virt2 (Qc := fun r h' => h' = h ∧ r = some (.int (zI (bt x k = true)))) rfl (by decide) rfl hr rfl (Nat.le_of_ble_eq_true rfl) (s_hasE (k := k) (by omega) hr (by omega)) (fun r h hq9 => ?_)
    obtain ⟨rfl, rfl⟩ := hq9
    refine g_if_ne 32 rfl rfl (fun c_1 => ?_) (fun c_1 => ?_)
    · skip
      rw [zI_eq0] at c_1
      replace c_1 := Classical.not_not.mp c_1
      refine g_iload (i := 5) rfl rfl ?_
      refine g_aload_n (i := 0) rfl rfl ?_
      refine g_getfield (v := .int (J 0)) rfl hr (by decide) rfl ?_
      refine g_irem rfl (by intro z; rw [z] at hw0; have e : (0 : Int32).toInt = 0 := rfl; omega) ?_
      have k_3 : (0 : Int32).toInt = 0 := rfl
      refine g_if_le 51 rfl rfl (fun c_2 => ?_) (fun c_2 => ?_)
      · skip
        rw [i_le, a4, k_3] at c_2
        refine g_iload (i := 5) rfl rfl ?_
        refine g_aload_n (i := 0) rfl rfl ?_
        refine g_getfield (v := .int (J 0)) rfl hr (by decide) rfl ?_
        refine g_irem rfl (by intro z; rw [z] at hw0; have e : (0 : Int32).toInt = 0 := rfl; omega) ?_
        refine g_iconst (n := 1) rfl ?_
        have k_4 : (Int32.ofInt 1).toInt = 1 := rfl
        refine g_iadd rfl ?_
        have t_5 : (((Int32.ofNat k) - (Int32.ofNat k) / (J 0) * (J 0)) + (Int32.ofInt 1)).toInt = ((k % W + 1 : Nat) : Int) := by rw [i_add (by rw [a4, k_4]; omega) (by rw [a4, k_4]; omega), a4, k_4]; omega
        refine g_aload_n (i := 0) rfl rfl ?_
        refine g_getfield (v := .int (J 0)) rfl hr (by decide) rfl ?_
        refine g_icmp_ge 76 rfl rfl (fun c_6 => ?_) (fun c_6 => ?_)
        · skip
          rw [i_le, t_5, hw0] at c_6
          refine g_iload (i := 5) rfl rfl ?_
          refine g_aload_n (i := 0) rfl rfl ?_
          refine g_getfield (v := .int (J 0)) rfl hr (by decide) rfl ?_
          refine g_icmp_lt 97 rfl rfl (fun c_7 => ?_) (fun c_7 => ?_)
          · skip
            rw [i_lt, ek, hw0] at c_7
            refine g_iload (i := 5) rfl rfl ?_
            refine g_aload_n (i := 0) rfl rfl ?_
            refine g_getfield (v := .int (J 0)) rfl hr (by decide) rfl ?_
            refine g_iadd rfl ?_
            have t_8 : ((Int32.ofNat k) + (J 0)).toInt = ((k + W : Nat) : Int) := by rw [i_add (by rw [ek, hw0]; omega) (by rw [ek, hw0]; omega), ek, hw0]; omega
            refine g_aload_n (i := 0) rfl rfl ?_
            refine g_getfield (v := .int (J 0)) rfl hr (by decide) rfl ?_
            refine g_aload_n (i := 0) rfl rfl ?_
            refine g_getfield (v := .int (J 1)) rfl hr (by decide) rfl ?_
            refine g_imul rfl ?_
            refine g_icmp_ge 128 rfl rfl (fun c_9 => ?_) (fun c_9 => ?_)
            · skip
              rw [i_le, t_8, hwn] at c_9
              refine g_iinc (i := 5) (L1 := [some (.ref 60), some (.long x), none, some (.long s), none, some (.int ((Int32.ofNat k) + Int32.ofInt 1))]) rfl rfl rfl ?_
              rw [ofN_add (by omega)]
              refine g_goto 5 rfl rfl ?_
              refine ih (k + 1) _ (by omega) (bp_im hs (fun i hi => ?_))
              rw [nbP_s]
              have hb : (bt x k = true) = True := eq_true c_1
              rw [hb]
              unfold adj
              generalize nbP W (W * H) x k i = P
              constructor
              · intro z
                rcases z with z
                by_cases hP : P
                · exact Or.inl hP
                · refine Or.inr ⟨trivial, ?_⟩
                  simp only [hP, false_or] at z <;> omega
              · intro z
                by_cases hP : P
                · simp only [hP, true_or]
                · simp only [hP, false_or, true_and] at z ⊢
                  first | omega | (exact absurd z (by omega))
            · skip
              rw [i_le, t_8, hwn] at c_9
              refine g_lload_n (i := 3) rfl rfl ?_
              refine g_lconst (n := 1) rfl ?_
              show sGo none 222 _ 118 [some (.ref 60), some (.long x), none, some (.long s), none, some (.int (Int32.ofNat k))] [.long (Int64.ofNat 1), .long s] _ _
              refine g_iload (i := 5) rfl rfl ?_
              refine g_aload_n (i := 0) rfl rfl ?_
              refine g_getfield (v := .int (J 0)) rfl hr (by decide) rfl ?_
              refine g_iadd rfl ?_
              have t_10 : ((Int32.ofNat k) + (J 0)).toInt = ((k + W : Nat) : Int) := by rw [i_add (by rw [ek, hw0]; omega) (by rw [ek, hw0]; omega), ek, hw0]; omega
              have e_11 : Int32.ofNat k + J 0 = Int32.ofNat (k + W) := Int32.toInt_inj.mp (by rw [ofN_toInt (n := k + W) (by omega)]; omega)
              rw [e_11]
              have b_12 := bp_or1 (k := k + W) hs (by omega)
              refine g_lshl rfl ?_
              refine g_lor rfl ?_
              refine g_lstore_n (i := 3) (L1 := [some (.ref 60), some (.long x), none, some (.long (s ||| ((Int64.ofNat 1) <<< ((Int32.ofNat (k + W)).toInt64 &&& 63)))), none, some (.int (Int32.ofNat k))]) rfl (Nat.le_of_ble_eq_true rfl) rfl ?_
              refine g_iinc (i := 5) (L1 := [some (.ref 60), some (.long x), none, some (.long (s ||| ((Int64.ofNat 1) <<< ((Int32.ofNat (k + W)).toInt64 &&& 63)))), none, some (.int ((Int32.ofNat k) + Int32.ofInt 1))]) rfl rfl rfl ?_
              rw [ofN_add (by omega)]
              refine g_goto 5 rfl rfl ?_
              refine ih (k + 1) _ (by omega) (bp_im b_12 (fun i hi => ?_))
              rw [nbP_s]
              have hb : (bt x k = true) = True := eq_true c_1
              rw [hb]
              unfold adj
              generalize nbP W (W * H) x k i = P
              constructor
              · intro z
                rcases z with z
                by_cases hP : P
                · exact Or.inl hP
                · refine Or.inr ⟨trivial, ?_⟩
                  simp only [hP, false_or] at z <;> omega
              · intro z
                by_cases hP : P
                · simp only [hP, true_or]
                · simp only [hP, false_or, true_and] at z ⊢
                  first | omega | (exact absurd z (by omega))
          · skip
            rw [i_lt, ek, hw0] at c_7
            refine g_lload_n (i := 3) rfl rfl ?_
            refine g_lconst (n := 1) rfl ?_
            show sGo none 222 _ 87 [some (.ref 60), some (.long x), none, some (.long s), none, some (.int (Int32.ofNat k))] [.long (Int64.ofNat 1), .long s] _ _
            refine g_iload (i := 5) rfl rfl ?_
            refine g_aload_n (i := 0) rfl rfl ?_
            refine g_getfield (v := .int (J 0)) rfl hr (by decide) rfl ?_
            refine g_isub rfl ?_
            have t_13 : ((Int32.ofNat k) - (J 0)).toInt = ((k : Nat) : Int) - ((W : Nat) : Int) := by rw [i_sub (by rw [ek, hw0]; omega) (by rw [ek, hw0]; omega), ek, hw0]
            have e_14 : Int32.ofNat k - J 0 = Int32.ofNat (k - W) := Int32.toInt_inj.mp (by rw [ofN_toInt (n := k - W) (by omega)]; omega)
            rw [e_14]
            have b_15 := bp_or1 (k := k - W) hs (by omega)
            refine g_lshl rfl ?_
            refine g_lor rfl ?_
            refine g_lstore_n (i := 3) (L1 := [some (.ref 60), some (.long x), none, some (.long (s ||| ((Int64.ofNat 1) <<< ((Int32.ofNat (k - W)).toInt64 &&& 63)))), none, some (.int (Int32.ofNat k))]) rfl (Nat.le_of_ble_eq_true rfl) rfl ?_
            refine g_iload (i := 5) rfl rfl ?_
            refine g_aload_n (i := 0) rfl rfl ?_
            refine g_getfield (v := .int (J 0)) rfl hr (by decide) rfl ?_
            refine g_iadd rfl ?_
            have t_16 : ((Int32.ofNat k) + (J 0)).toInt = ((k + W : Nat) : Int) := by rw [i_add (by rw [ek, hw0]; omega) (by rw [ek, hw0]; omega), ek, hw0]; omega
            refine g_aload_n (i := 0) rfl rfl ?_
            refine g_getfield (v := .int (J 0)) rfl hr (by decide) rfl ?_
            refine g_aload_n (i := 0) rfl rfl ?_
            refine g_getfield (v := .int (J 1)) rfl hr (by decide) rfl ?_
            refine g_imul rfl ?_
            refine g_icmp_ge 128 rfl rfl (fun c_17 => ?_) (fun c_17 => ?_)
            · skip
              rw [i_le, t_16, hwn] at c_17
              refine g_iinc (i := 5) (L1 := [some (.ref 60), some (.long x), none, some (.long (s ||| ((Int64.ofNat 1) <<< ((Int32.ofNat (k - W)).toInt64 &&& 63)))), none, some (.int ((Int32.ofNat k) + Int32.ofInt 1))]) rfl rfl rfl ?_
              rw [ofN_add (by omega)]
              refine g_goto 5 rfl rfl ?_
              refine ih (k + 1) _ (by omega) (bp_im b_15 (fun i hi => ?_))
              rw [nbP_s]
              have hb : (bt x k = true) = True := eq_true c_1
              rw [hb]
              unfold adj
              generalize nbP W (W * H) x k i = P
              constructor
              · intro z
                rcases z with z
                by_cases hP : P
                · exact Or.inl hP
                · refine Or.inr ⟨trivial, ?_⟩
                  simp only [hP, false_or] at z <;> omega
              · intro z
                by_cases hP : P
                · simp only [hP, true_or]
                · simp only [hP, false_or, true_and] at z ⊢
                  first | omega | (exact absurd z (by omega))
            · skip
              rw [i_le, t_16, hwn] at c_17
              refine g_lload_n (i := 3) rfl rfl ?_
              refine g_lconst (n := 1) rfl ?_
              show sGo none 222 _ 118 [some (.ref 60), some (.long x), none, some (.long (s ||| ((Int64.ofNat 1) <<< ((Int32.ofNat (k - W)).toInt64 &&& 63)))), none, some (.int (Int32.ofNat k))] [.long (Int64.ofNat 1), .long (s ||| ((Int64.ofNat 1) <<< ((Int32.ofNat (k - W)).toInt64 &&& 63)))] _ _
              refine g_iload (i := 5) rfl rfl ?_
              refine g_aload_n (i := 0) rfl rfl ?_
              refine g_getfield (v := .int (J 0)) rfl hr (by decide) rfl ?_
              refine g_iadd rfl ?_
              have t_18 : ((Int32.ofNat k) + (J 0)).toInt = ((k + W : Nat) : Int) := by rw [i_add (by rw [ek, hw0]; omega) (by rw [ek, hw0]; omega), ek, hw0]; omega
              have e_19 : Int32.ofNat k + J 0 = Int32.ofNat (k + W) := Int32.toInt_inj.mp (by rw [ofN_toInt (n := k + W) (by omega)]; omega)
              rw [e_19]
              have b_20 := bp_or1 (k := k + W) b_15 (by omega)
              refine g_lshl rfl ?_
              refine g_lor rfl ?_
              refine g_lstore_n (i := 3) (L1 := [some (.ref 60), some (.long x), none, some (.long ((s ||| ((Int64.ofNat 1) <<< ((Int32.ofNat (k - W)).toInt64 &&& 63))) ||| ((Int64.ofNat 1) <<< ((Int32.ofNat (k + W)).toInt64 &&& 63)))), none, some (.int (Int32.ofNat k))]) rfl (Nat.le_of_ble_eq_true rfl) rfl ?_
              refine g_iinc (i := 5) (L1 := [some (.ref 60), some (.long x), none, some (.long ((s ||| ((Int64.ofNat 1) <<< ((Int32.ofNat (k - W)).toInt64 &&& 63))) ||| ((Int64.ofNat 1) <<< ((Int32.ofNat (k + W)).toInt64 &&& 63)))), none, some (.int ((Int32.ofNat k) + Int32.ofInt 1))]) rfl rfl rfl ?_
              rw [ofN_add (by omega)]
              refine g_goto 5 rfl rfl ?_
              refine ih (k + 1) _ (by omega) (bp_im b_20 (fun i hi => ?_))
              rw [nbP_s]
              have hb : (bt x k = true) = True := eq_true c_1
              rw [hb]
              unfold adj
              generalize nbP W (W * H) x k i = P
              constructor
              · intro z
                rcases z with z
                by_cases hP : P
                · exact Or.inl hP
                · refine Or.inr ⟨trivial, ?_⟩
                  simp only [hP, false_or] at z <;> omega
              · intro z
                by_cases hP : P
                · simp only [hP, true_or]
                · simp only [hP, false_or, true_and] at z ⊢
                  first | omega | (exact absurd z (by omega))
        · skip
          rw [i_le, t_5, hw0] at c_6
          refine g_lload_n (i := 3) rfl rfl ?_
          refine g_lconst (n := 1) rfl ?_
          show sGo none 222 _ 69 [some (.ref 60), some (.long x), none, some (.long s), none, some (.int (Int32.ofNat k))] [.long (Int64.ofNat 1), .long s] _ _
          refine g_iload (i := 5) rfl rfl ?_
          refine g_iconst (n := 1) rfl ?_
          refine g_iadd rfl ?_
          have t_21 : ((Int32.ofNat k) + (Int32.ofInt 1)).toInt = ((k + 1 : Nat) : Int) := by rw [i_add (by rw [ek, k_4]; omega) (by rw [ek, k_4]; omega), ek, k_4]; omega
          have e_22 : Int32.ofNat k + Int32.ofInt 1 = Int32.ofNat (k + 1) := Int32.toInt_inj.mp (by rw [ofN_toInt (n := k + 1) (by omega)]; omega)
          rw [e_22]
          have b_23 := bp_or1 (k := k + 1) hs (by omega)
          refine g_lshl rfl ?_
          refine g_lor rfl ?_
          refine g_lstore_n (i := 3) (L1 := [some (.ref 60), some (.long x), none, some (.long (s ||| ((Int64.ofNat 1) <<< ((Int32.ofNat (k + 1)).toInt64 &&& 63)))), none, some (.int (Int32.ofNat k))]) rfl (Nat.le_of_ble_eq_true rfl) rfl ?_
          refine g_iload (i := 5) rfl rfl ?_
          refine g_aload_n (i := 0) rfl rfl ?_
          refine g_getfield (v := .int (J 0)) rfl hr (by decide) rfl ?_
          refine g_icmp_lt 97 rfl rfl (fun c_24 => ?_) (fun c_24 => ?_)
          · skip
            rw [i_lt, ek, hw0] at c_24
            refine g_iload (i := 5) rfl rfl ?_
            refine g_aload_n (i := 0) rfl rfl ?_
            refine g_getfield (v := .int (J 0)) rfl hr (by decide) rfl ?_
            refine g_iadd rfl ?_
            have t_25 : ((Int32.ofNat k) + (J 0)).toInt = ((k + W : Nat) : Int) := by rw [i_add (by rw [ek, hw0]; omega) (by rw [ek, hw0]; omega), ek, hw0]; omega
            refine g_aload_n (i := 0) rfl rfl ?_
            refine g_getfield (v := .int (J 0)) rfl hr (by decide) rfl ?_
            refine g_aload_n (i := 0) rfl rfl ?_
            refine g_getfield (v := .int (J 1)) rfl hr (by decide) rfl ?_
            refine g_imul rfl ?_
            refine g_icmp_ge 128 rfl rfl (fun c_26 => ?_) (fun c_26 => ?_)
            · skip
              rw [i_le, t_25, hwn] at c_26
              refine g_iinc (i := 5) (L1 := [some (.ref 60), some (.long x), none, some (.long (s ||| ((Int64.ofNat 1) <<< ((Int32.ofNat (k + 1)).toInt64 &&& 63)))), none, some (.int ((Int32.ofNat k) + Int32.ofInt 1))]) rfl rfl rfl ?_
              rw [ofN_add (by omega)]
              refine g_goto 5 rfl rfl ?_
              refine ih (k + 1) _ (by omega) (bp_im b_23 (fun i hi => ?_))
              rw [nbP_s]
              have hb : (bt x k = true) = True := eq_true c_1
              rw [hb]
              unfold adj
              generalize nbP W (W * H) x k i = P
              constructor
              · intro z
                rcases z with z
                by_cases hP : P
                · exact Or.inl hP
                · refine Or.inr ⟨trivial, ?_⟩
                  simp only [hP, false_or] at z <;> omega
              · intro z
                by_cases hP : P
                · simp only [hP, true_or]
                · simp only [hP, false_or, true_and] at z ⊢
                  first | omega | (exact absurd z (by omega))
            · skip
              rw [i_le, t_25, hwn] at c_26
              refine g_lload_n (i := 3) rfl rfl ?_
              refine g_lconst (n := 1) rfl ?_
              show sGo none 222 _ 118 [some (.ref 60), some (.long x), none, some (.long (s ||| ((Int64.ofNat 1) <<< ((Int32.ofNat (k + 1)).toInt64 &&& 63)))), none, some (.int (Int32.ofNat k))] [.long (Int64.ofNat 1), .long (s ||| ((Int64.ofNat 1) <<< ((Int32.ofNat (k + 1)).toInt64 &&& 63)))] _ _
              refine g_iload (i := 5) rfl rfl ?_
              refine g_aload_n (i := 0) rfl rfl ?_
              refine g_getfield (v := .int (J 0)) rfl hr (by decide) rfl ?_
              refine g_iadd rfl ?_
              have t_27 : ((Int32.ofNat k) + (J 0)).toInt = ((k + W : Nat) : Int) := by rw [i_add (by rw [ek, hw0]; omega) (by rw [ek, hw0]; omega), ek, hw0]; omega
              have e_28 : Int32.ofNat k + J 0 = Int32.ofNat (k + W) := Int32.toInt_inj.mp (by rw [ofN_toInt (n := k + W) (by omega)]; omega)
              rw [e_28]
              have b_29 := bp_or1 (k := k + W) b_23 (by omega)
              refine g_lshl rfl ?_
              refine g_lor rfl ?_
              refine g_lstore_n (i := 3) (L1 := [some (.ref 60), some (.long x), none, some (.long ((s ||| ((Int64.ofNat 1) <<< ((Int32.ofNat (k + 1)).toInt64 &&& 63))) ||| ((Int64.ofNat 1) <<< ((Int32.ofNat (k + W)).toInt64 &&& 63)))), none, some (.int (Int32.ofNat k))]) rfl (Nat.le_of_ble_eq_true rfl) rfl ?_
              refine g_iinc (i := 5) (L1 := [some (.ref 60), some (.long x), none, some (.long ((s ||| ((Int64.ofNat 1) <<< ((Int32.ofNat (k + 1)).toInt64 &&& 63))) ||| ((Int64.ofNat 1) <<< ((Int32.ofNat (k + W)).toInt64 &&& 63)))), none, some (.int ((Int32.ofNat k) + Int32.ofInt 1))]) rfl rfl rfl ?_
              rw [ofN_add (by omega)]
              refine g_goto 5 rfl rfl ?_
              refine ih (k + 1) _ (by omega) (bp_im b_29 (fun i hi => ?_))
              rw [nbP_s]
              have hb : (bt x k = true) = True := eq_true c_1
              rw [hb]
              unfold adj
              generalize nbP W (W * H) x k i = P
              constructor
              · intro z
                rcases z with z
                by_cases hP : P
                · exact Or.inl hP
                · refine Or.inr ⟨trivial, ?_⟩
                  simp only [hP, false_or] at z <;> omega
              · intro z
                by_cases hP : P
                · simp only [hP, true_or]
                · simp only [hP, false_or, true_and] at z ⊢
                  first | omega | (exact absurd z (by omega))
          · skip
            rw [i_lt, ek, hw0] at c_24
            refine g_lload_n (i := 3) rfl rfl ?_
            refine g_lconst (n := 1) rfl ?_
            show sGo none 222 _ 87 [some (.ref 60), some (.long x), none, some (.long (s ||| ((Int64.ofNat 1) <<< ((Int32.ofNat (k + 1)).toInt64 &&& 63)))), none, some (.int (Int32.ofNat k))] [.long (Int64.ofNat 1), .long (s ||| ((Int64.ofNat 1) <<< ((Int32.ofNat (k + 1)).toInt64 &&& 63)))] _ _
            refine g_iload (i := 5) rfl rfl ?_
            refine g_aload_n (i := 0) rfl rfl ?_
            refine g_getfield (v := .int (J 0)) rfl hr (by decide) rfl ?_
            refine g_isub rfl ?_
            have t_30 : ((Int32.ofNat k) - (J 0)).toInt = ((k : Nat) : Int) - ((W : Nat) : Int) := by rw [i_sub (by rw [ek, hw0]; omega) (by rw [ek, hw0]; omega), ek, hw0]
            have e_31 : Int32.ofNat k - J 0 = Int32.ofNat (k - W) := Int32.toInt_inj.mp (by rw [ofN_toInt (n := k - W) (by omega)]; omega)
            rw [e_31]
            have b_32 := bp_or1 (k := k - W) b_23 (by omega)
            refine g_lshl rfl ?_
            refine g_lor rfl ?_
            refine g_lstore_n (i := 3) (L1 := [some (.ref 60), some (.long x), none, some (.long ((s ||| ((Int64.ofNat 1) <<< ((Int32.ofNat (k + 1)).toInt64 &&& 63))) ||| ((Int64.ofNat 1) <<< ((Int32.ofNat (k - W)).toInt64 &&& 63)))), none, some (.int (Int32.ofNat k))]) rfl (Nat.le_of_ble_eq_true rfl) rfl ?_
            refine g_iload (i := 5) rfl rfl ?_
            refine g_aload_n (i := 0) rfl rfl ?_
            refine g_getfield (v := .int (J 0)) rfl hr (by decide) rfl ?_
            refine g_iadd rfl ?_
            have t_33 : ((Int32.ofNat k) + (J 0)).toInt = ((k + W : Nat) : Int) := by rw [i_add (by rw [ek, hw0]; omega) (by rw [ek, hw0]; omega), ek, hw0]; omega
            refine g_aload_n (i := 0) rfl rfl ?_
            refine g_getfield (v := .int (J 0)) rfl hr (by decide) rfl ?_
            refine g_aload_n (i := 0) rfl rfl ?_
            refine g_getfield (v := .int (J 1)) rfl hr (by decide) rfl ?_
            refine g_imul rfl ?_
            refine g_icmp_ge 128 rfl rfl (fun c_34 => ?_) (fun c_34 => ?_)
            · skip
              rw [i_le, t_33, hwn] at c_34
              refine g_iinc (i := 5) (L1 := [some (.ref 60), some (.long x), none, some (.long ((s ||| ((Int64.ofNat 1) <<< ((Int32.ofNat (k + 1)).toInt64 &&& 63))) ||| ((Int64.ofNat 1) <<< ((Int32.ofNat (k - W)).toInt64 &&& 63)))), none, some (.int ((Int32.ofNat k) + Int32.ofInt 1))]) rfl rfl rfl ?_
              rw [ofN_add (by omega)]
              refine g_goto 5 rfl rfl ?_
              refine ih (k + 1) _ (by omega) (bp_im b_32 (fun i hi => ?_))
              rw [nbP_s]
              have hb : (bt x k = true) = True := eq_true c_1
              rw [hb]
              unfold adj
              generalize nbP W (W * H) x k i = P
              constructor
              · intro z
                rcases z with z
                by_cases hP : P
                · exact Or.inl hP
                · refine Or.inr ⟨trivial, ?_⟩
                  simp only [hP, false_or] at z <;> omega
              · intro z
                by_cases hP : P
                · simp only [hP, true_or]
                · simp only [hP, false_or, true_and] at z ⊢
                  first | omega | (exact absurd z (by omega))
            · skip
              rw [i_le, t_33, hwn] at c_34
              refine g_lload_n (i := 3) rfl rfl ?_
              refine g_lconst (n := 1) rfl ?_
              show sGo none 222 _ 118 [some (.ref 60), some (.long x), none, some (.long ((s ||| ((Int64.ofNat 1) <<< ((Int32.ofNat (k + 1)).toInt64 &&& 63))) ||| ((Int64.ofNat 1) <<< ((Int32.ofNat (k - W)).toInt64 &&& 63)))), none, some (.int (Int32.ofNat k))] [.long (Int64.ofNat 1), .long ((s ||| ((Int64.ofNat 1) <<< ((Int32.ofNat (k + 1)).toInt64 &&& 63))) ||| ((Int64.ofNat 1) <<< ((Int32.ofNat (k - W)).toInt64 &&& 63)))] _ _
              refine g_iload (i := 5) rfl rfl ?_
              refine g_aload_n (i := 0) rfl rfl ?_
              refine g_getfield (v := .int (J 0)) rfl hr (by decide) rfl ?_
              refine g_iadd rfl ?_
              have t_35 : ((Int32.ofNat k) + (J 0)).toInt = ((k + W : Nat) : Int) := by rw [i_add (by rw [ek, hw0]; omega) (by rw [ek, hw0]; omega), ek, hw0]; omega
              have e_36 : Int32.ofNat k + J 0 = Int32.ofNat (k + W) := Int32.toInt_inj.mp (by rw [ofN_toInt (n := k + W) (by omega)]; omega)
              rw [e_36]
              have b_37 := bp_or1 (k := k + W) b_32 (by omega)
              refine g_lshl rfl ?_
              refine g_lor rfl ?_
              refine g_lstore_n (i := 3) (L1 := [some (.ref 60), some (.long x), none, some (.long (((s ||| ((Int64.ofNat 1) <<< ((Int32.ofNat (k + 1)).toInt64 &&& 63))) ||| ((Int64.ofNat 1) <<< ((Int32.ofNat (k - W)).toInt64 &&& 63))) ||| ((Int64.ofNat 1) <<< ((Int32.ofNat (k + W)).toInt64 &&& 63)))), none, some (.int (Int32.ofNat k))]) rfl (Nat.le_of_ble_eq_true rfl) rfl ?_
              refine g_iinc (i := 5) (L1 := [some (.ref 60), some (.long x), none, some (.long (((s ||| ((Int64.ofNat 1) <<< ((Int32.ofNat (k + 1)).toInt64 &&& 63))) ||| ((Int64.ofNat 1) <<< ((Int32.ofNat (k - W)).toInt64 &&& 63))) ||| ((Int64.ofNat 1) <<< ((Int32.ofNat (k + W)).toInt64 &&& 63)))), none, some (.int ((Int32.ofNat k) + Int32.ofInt 1))]) rfl rfl rfl ?_
              rw [ofN_add (by omega)]
              refine g_goto 5 rfl rfl ?_
              refine ih (k + 1) _ (by omega) (bp_im b_37 (fun i hi => ?_))
              rw [nbP_s]
              have hb : (bt x k = true) = True := eq_true c_1
              rw [hb]
              unfold adj
              generalize nbP W (W * H) x k i = P
              constructor
              · intro z
                rcases z with z
                by_cases hP : P
                · exact Or.inl hP
                · refine Or.inr ⟨trivial, ?_⟩
                  simp only [hP, false_or] at z <;> omega
              · intro z
                by_cases hP : P
                · simp only [hP, true_or]
                · simp only [hP, false_or, true_and] at z ⊢
                  first | omega | (exact absurd z (by omega))
      · skip
        rw [i_le, a4, k_3] at c_2
        refine g_lload_n (i := 3) rfl rfl ?_
        refine g_lconst (n := 1) rfl ?_
        show sGo none 222 _ 44 [some (.ref 60), some (.long x), none, some (.long s), none, some (.int (Int32.ofNat k))] [.long (Int64.ofNat 1), .long s] _ _
        refine g_iload (i := 5) rfl rfl ?_
        refine g_iconst (n := 1) rfl ?_
        have k_38 : (Int32.ofInt 1).toInt = 1 := rfl
        refine g_isub rfl ?_
        have t_39 : ((Int32.ofNat k) - (Int32.ofInt 1)).toInt = ((k : Nat) : Int) - 1 := by rw [i_sub (by rw [ek, k_38]; omega) (by rw [ek, k_38]; omega), ek, k_38]
        have e_40 : Int32.ofNat k - Int32.ofInt 1 = Int32.ofNat (k - 1) := Int32.toInt_inj.mp (by rw [ofN_toInt (n := k - 1) (by omega)]; omega)
        rw [e_40]
        have b_41 := bp_or1 (k := k - 1) hs (by omega)
        refine g_lshl rfl ?_
        refine g_lor rfl ?_
        refine g_lstore_n (i := 3) (L1 := [some (.ref 60), some (.long x), none, some (.long (s ||| ((Int64.ofNat 1) <<< ((Int32.ofNat (k - 1)).toInt64 &&& 63)))), none, some (.int (Int32.ofNat k))]) rfl (Nat.le_of_ble_eq_true rfl) rfl ?_
        refine g_iload (i := 5) rfl rfl ?_
        refine g_aload_n (i := 0) rfl rfl ?_
        refine g_getfield (v := .int (J 0)) rfl hr (by decide) rfl ?_
        refine g_irem rfl (by intro z; rw [z] at hw0; have e : (0 : Int32).toInt = 0 := rfl; omega) ?_
        refine g_iconst (n := 1) rfl ?_
        refine g_iadd rfl ?_
        have t_42 : (((Int32.ofNat k) - (Int32.ofNat k) / (J 0) * (J 0)) + (Int32.ofInt 1)).toInt = ((k % W + 1 : Nat) : Int) := by rw [i_add (by rw [a4, k_38]; omega) (by rw [a4, k_38]; omega), a4, k_38]; omega
        refine g_aload_n (i := 0) rfl rfl ?_
        refine g_getfield (v := .int (J 0)) rfl hr (by decide) rfl ?_
        refine g_icmp_ge 76 rfl rfl (fun c_43 => ?_) (fun c_43 => ?_)
        · skip
          rw [i_le, t_42, hw0] at c_43
          refine g_iload (i := 5) rfl rfl ?_
          refine g_aload_n (i := 0) rfl rfl ?_
          refine g_getfield (v := .int (J 0)) rfl hr (by decide) rfl ?_
          refine g_icmp_lt 97 rfl rfl (fun c_44 => ?_) (fun c_44 => ?_)
          · skip
            rw [i_lt, ek, hw0] at c_44
            refine g_iload (i := 5) rfl rfl ?_
            refine g_aload_n (i := 0) rfl rfl ?_
            refine g_getfield (v := .int (J 0)) rfl hr (by decide) rfl ?_
            refine g_iadd rfl ?_
            have t_45 : ((Int32.ofNat k) + (J 0)).toInt = ((k + W : Nat) : Int) := by rw [i_add (by rw [ek, hw0]; omega) (by rw [ek, hw0]; omega), ek, hw0]; omega
            refine g_aload_n (i := 0) rfl rfl ?_
            refine g_getfield (v := .int (J 0)) rfl hr (by decide) rfl ?_
            refine g_aload_n (i := 0) rfl rfl ?_
            refine g_getfield (v := .int (J 1)) rfl hr (by decide) rfl ?_
            refine g_imul rfl ?_
            refine g_icmp_ge 128 rfl rfl (fun c_46 => ?_) (fun c_46 => ?_)
            · skip
              rw [i_le, t_45, hwn] at c_46
              refine g_iinc (i := 5) (L1 := [some (.ref 60), some (.long x), none, some (.long (s ||| ((Int64.ofNat 1) <<< ((Int32.ofNat (k - 1)).toInt64 &&& 63)))), none, some (.int ((Int32.ofNat k) + Int32.ofInt 1))]) rfl rfl rfl ?_
              rw [ofN_add (by omega)]
              refine g_goto 5 rfl rfl ?_
              refine ih (k + 1) _ (by omega) (bp_im b_41 (fun i hi => ?_))
              rw [nbP_s]
              have hb : (bt x k = true) = True := eq_true c_1
              rw [hb]
              unfold adj
              generalize nbP W (W * H) x k i = P
              constructor
              · intro z
                rcases z with z
                by_cases hP : P
                · exact Or.inl hP
                · refine Or.inr ⟨trivial, ?_⟩
                  simp only [hP, false_or] at z <;> omega
              · intro z
                by_cases hP : P
                · simp only [hP, true_or]
                · simp only [hP, false_or, true_and] at z ⊢
                  first | omega | (exact absurd z (by omega))
            · skip
              rw [i_le, t_45, hwn] at c_46
              refine g_lload_n (i := 3) rfl rfl ?_
              refine g_lconst (n := 1) rfl ?_
              show sGo none 222 _ 118 [some (.ref 60), some (.long x), none, some (.long (s ||| ((Int64.ofNat 1) <<< ((Int32.ofNat (k - 1)).toInt64 &&& 63)))), none, some (.int (Int32.ofNat k))] [.long (Int64.ofNat 1), .long (s ||| ((Int64.ofNat 1) <<< ((Int32.ofNat (k - 1)).toInt64 &&& 63)))] _ _
              refine g_iload (i := 5) rfl rfl ?_
              refine g_aload_n (i := 0) rfl rfl ?_
              refine g_getfield (v := .int (J 0)) rfl hr (by decide) rfl ?_
              refine g_iadd rfl ?_
              have t_47 : ((Int32.ofNat k) + (J 0)).toInt = ((k + W : Nat) : Int) := by rw [i_add (by rw [ek, hw0]; omega) (by rw [ek, hw0]; omega), ek, hw0]; omega
              have e_48 : Int32.ofNat k + J 0 = Int32.ofNat (k + W) := Int32.toInt_inj.mp (by rw [ofN_toInt (n := k + W) (by omega)]; omega)
              rw [e_48]
              have b_49 := bp_or1 (k := k + W) b_41 (by omega)
              refine g_lshl rfl ?_
              refine g_lor rfl ?_
              refine g_lstore_n (i := 3) (L1 := [some (.ref 60), some (.long x), none, some (.long ((s ||| ((Int64.ofNat 1) <<< ((Int32.ofNat (k - 1)).toInt64 &&& 63))) ||| ((Int64.ofNat 1) <<< ((Int32.ofNat (k + W)).toInt64 &&& 63)))), none, some (.int (Int32.ofNat k))]) rfl (Nat.le_of_ble_eq_true rfl) rfl ?_
              refine g_iinc (i := 5) (L1 := [some (.ref 60), some (.long x), none, some (.long ((s ||| ((Int64.ofNat 1) <<< ((Int32.ofNat (k - 1)).toInt64 &&& 63))) ||| ((Int64.ofNat 1) <<< ((Int32.ofNat (k + W)).toInt64 &&& 63)))), none, some (.int ((Int32.ofNat k) + Int32.ofInt 1))]) rfl rfl rfl ?_
              rw [ofN_add (by omega)]
              refine g_goto 5 rfl rfl ?_
              refine ih (k + 1) _ (by omega) (bp_im b_49 (fun i hi => ?_))
              rw [nbP_s]
              have hb : (bt x k = true) = True := eq_true c_1
              rw [hb]
              unfold adj
              generalize nbP W (W * H) x k i = P
              constructor
              · intro z
                rcases z with z
                by_cases hP : P
                · exact Or.inl hP
                · refine Or.inr ⟨trivial, ?_⟩
                  simp only [hP, false_or] at z <;> omega
              · intro z
                by_cases hP : P
                · simp only [hP, true_or]
                · simp only [hP, false_or, true_and] at z ⊢
                  first | omega | (exact absurd z (by omega))
          · skip
            rw [i_lt, ek, hw0] at c_44
            refine g_lload_n (i := 3) rfl rfl ?_
            refine g_lconst (n := 1) rfl ?_
            show sGo none 222 _ 87 [some (.ref 60), some (.long x), none, some (.long (s ||| ((Int64.ofNat 1) <<< ((Int32.ofNat (k - 1)).toInt64 &&& 63)))), none, some (.int (Int32.ofNat k))] [.long (Int64.ofNat 1), .long (s ||| ((Int64.ofNat 1) <<< ((Int32.ofNat (k - 1)).toInt64 &&& 63)))] _ _
            refine g_iload (i := 5) rfl rfl ?_
            refine g_aload_n (i := 0) rfl rfl ?_
            refine g_getfield (v := .int (J 0)) rfl hr (by decide) rfl ?_
            refine g_isub rfl ?_
            have t_50 : ((Int32.ofNat k) - (J 0)).toInt = ((k : Nat) : Int) - ((W : Nat) : Int) := by rw [i_sub (by rw [ek, hw0]; omega) (by rw [ek, hw0]; omega), ek, hw0]
            have e_51 : Int32.ofNat k - J 0 = Int32.ofNat (k - W) := Int32.toInt_inj.mp (by rw [ofN_toInt (n := k - W) (by omega)]; omega)
            rw [e_51]
            have b_52 := bp_or1 (k := k - W) b_41 (by omega)
            refine g_lshl rfl ?_
            refine g_lor rfl ?_
            refine g_lstore_n (i := 3) (L1 := [some (.ref 60), some (.long x), none, some (.long ((s ||| ((Int64.ofNat 1) <<< ((Int32.ofNat (k - 1)).toInt64 &&& 63))) ||| ((Int64.ofNat 1) <<< ((Int32.ofNat (k - W)).toInt64 &&& 63)))), none, some (.int (Int32.ofNat k))]) rfl (Nat.le_of_ble_eq_true rfl) rfl ?_
            refine g_iload (i := 5) rfl rfl ?_
            refine g_aload_n (i := 0) rfl rfl ?_
            refine g_getfield (v := .int (J 0)) rfl hr (by decide) rfl ?_
            refine g_iadd rfl ?_
            have t_53 : ((Int32.ofNat k) + (J 0)).toInt = ((k + W : Nat) : Int) := by rw [i_add (by rw [ek, hw0]; omega) (by rw [ek, hw0]; omega), ek, hw0]; omega
            refine g_aload_n (i := 0) rfl rfl ?_
            refine g_getfield (v := .int (J 0)) rfl hr (by decide) rfl ?_
            refine g_aload_n (i := 0) rfl rfl ?_
            refine g_getfield (v := .int (J 1)) rfl hr (by decide) rfl ?_
            refine g_imul rfl ?_
            refine g_icmp_ge 128 rfl rfl (fun c_54 => ?_) (fun c_54 => ?_)
            · skip
              rw [i_le, t_53, hwn] at c_54
              refine g_iinc (i := 5) (L1 := [some (.ref 60), some (.long x), none, some (.long ((s ||| ((Int64.ofNat 1) <<< ((Int32.ofNat (k - 1)).toInt64 &&& 63))) ||| ((Int64.ofNat 1) <<< ((Int32.ofNat (k - W)).toInt64 &&& 63)))), none, some (.int ((Int32.ofNat k) + Int32.ofInt 1))]) rfl rfl rfl ?_
              rw [ofN_add (by omega)]
              refine g_goto 5 rfl rfl ?_
              refine ih (k + 1) _ (by omega) (bp_im b_52 (fun i hi => ?_))
              rw [nbP_s]
              have hb : (bt x k = true) = True := eq_true c_1
              rw [hb]
              unfold adj
              generalize nbP W (W * H) x k i = P
              constructor
              · intro z
                rcases z with z
                by_cases hP : P
                · exact Or.inl hP
                · refine Or.inr ⟨trivial, ?_⟩
                  simp only [hP, false_or] at z <;> omega
              · intro z
                by_cases hP : P
                · simp only [hP, true_or]
                · simp only [hP, false_or, true_and] at z ⊢
                  first | omega | (exact absurd z (by omega))
            · skip
              rw [i_le, t_53, hwn] at c_54
              refine g_lload_n (i := 3) rfl rfl ?_
              refine g_lconst (n := 1) rfl ?_
              show sGo none 222 _ 118 [some (.ref 60), some (.long x), none, some (.long ((s ||| ((Int64.ofNat 1) <<< ((Int32.ofNat (k - 1)).toInt64 &&& 63))) ||| ((Int64.ofNat 1) <<< ((Int32.ofNat (k - W)).toInt64 &&& 63)))), none, some (.int (Int32.ofNat k))] [.long (Int64.ofNat 1), .long ((s ||| ((Int64.ofNat 1) <<< ((Int32.ofNat (k - 1)).toInt64 &&& 63))) ||| ((Int64.ofNat 1) <<< ((Int32.ofNat (k - W)).toInt64 &&& 63)))] _ _
              refine g_iload (i := 5) rfl rfl ?_
              refine g_aload_n (i := 0) rfl rfl ?_
              refine g_getfield (v := .int (J 0)) rfl hr (by decide) rfl ?_
              refine g_iadd rfl ?_
              have t_55 : ((Int32.ofNat k) + (J 0)).toInt = ((k + W : Nat) : Int) := by rw [i_add (by rw [ek, hw0]; omega) (by rw [ek, hw0]; omega), ek, hw0]; omega
              have e_56 : Int32.ofNat k + J 0 = Int32.ofNat (k + W) := Int32.toInt_inj.mp (by rw [ofN_toInt (n := k + W) (by omega)]; omega)
              rw [e_56]
              have b_57 := bp_or1 (k := k + W) b_52 (by omega)
              refine g_lshl rfl ?_
              refine g_lor rfl ?_
              refine g_lstore_n (i := 3) (L1 := [some (.ref 60), some (.long x), none, some (.long (((s ||| ((Int64.ofNat 1) <<< ((Int32.ofNat (k - 1)).toInt64 &&& 63))) ||| ((Int64.ofNat 1) <<< ((Int32.ofNat (k - W)).toInt64 &&& 63))) ||| ((Int64.ofNat 1) <<< ((Int32.ofNat (k + W)).toInt64 &&& 63)))), none, some (.int (Int32.ofNat k))]) rfl (Nat.le_of_ble_eq_true rfl) rfl ?_
              refine g_iinc (i := 5) (L1 := [some (.ref 60), some (.long x), none, some (.long (((s ||| ((Int64.ofNat 1) <<< ((Int32.ofNat (k - 1)).toInt64 &&& 63))) ||| ((Int64.ofNat 1) <<< ((Int32.ofNat (k - W)).toInt64 &&& 63))) ||| ((Int64.ofNat 1) <<< ((Int32.ofNat (k + W)).toInt64 &&& 63)))), none, some (.int ((Int32.ofNat k) + Int32.ofInt 1))]) rfl rfl rfl ?_
              rw [ofN_add (by omega)]
              refine g_goto 5 rfl rfl ?_
              refine ih (k + 1) _ (by omega) (bp_im b_57 (fun i hi => ?_))
              rw [nbP_s]
              have hb : (bt x k = true) = True := eq_true c_1
              rw [hb]
              unfold adj
              generalize nbP W (W * H) x k i = P
              constructor
              · intro z
                rcases z with z
                by_cases hP : P
                · exact Or.inl hP
                · refine Or.inr ⟨trivial, ?_⟩
                  simp only [hP, false_or] at z <;> omega
              · intro z
                by_cases hP : P
                · simp only [hP, true_or]
                · simp only [hP, false_or, true_and] at z ⊢
                  first | omega | (exact absurd z (by omega))
        · skip
          rw [i_le, t_42, hw0] at c_43
          refine g_lload_n (i := 3) rfl rfl ?_
          refine g_lconst (n := 1) rfl ?_
          show sGo none 222 _ 69 [some (.ref 60), some (.long x), none, some (.long (s ||| ((Int64.ofNat 1) <<< ((Int32.ofNat (k - 1)).toInt64 &&& 63)))), none, some (.int (Int32.ofNat k))] [.long (Int64.ofNat 1), .long (s ||| ((Int64.ofNat 1) <<< ((Int32.ofNat (k - 1)).toInt64 &&& 63)))] _ _
          refine g_iload (i := 5) rfl rfl ?_
          refine g_iconst (n := 1) rfl ?_
          refine g_iadd rfl ?_
          have t_58 : ((Int32.ofNat k) + (Int32.ofInt 1)).toInt = ((k + 1 : Nat) : Int) := by rw [i_add (by rw [ek, k_38]; omega) (by rw [ek, k_38]; omega), ek, k_38]; omega
          have e_59 : Int32.ofNat k + Int32.ofInt 1 = Int32.ofNat (k + 1) := Int32.toInt_inj.mp (by rw [ofN_toInt (n := k + 1) (by omega)]; omega)
          rw [e_59]
          have b_60 := bp_or1 (k := k + 1) b_41 (by omega)
          refine g_lshl rfl ?_
          refine g_lor rfl ?_
          refine g_lstore_n (i := 3) (L1 := [some (.ref 60), some (.long x), none, some (.long ((s ||| ((Int64.ofNat 1) <<< ((Int32.ofNat (k - 1)).toInt64 &&& 63))) ||| ((Int64.ofNat 1) <<< ((Int32.ofNat (k + 1)).toInt64 &&& 63)))), none, some (.int (Int32.ofNat k))]) rfl (Nat.le_of_ble_eq_true rfl) rfl ?_
          refine g_iload (i := 5) rfl rfl ?_
          refine g_aload_n (i := 0) rfl rfl ?_
          refine g_getfield (v := .int (J 0)) rfl hr (by decide) rfl ?_
          refine g_icmp_lt 97 rfl rfl (fun c_61 => ?_) (fun c_61 => ?_)
          · skip
            rw [i_lt, ek, hw0] at c_61
            refine g_iload (i := 5) rfl rfl ?_
            refine g_aload_n (i := 0) rfl rfl ?_
            refine g_getfield (v := .int (J 0)) rfl hr (by decide) rfl ?_
            refine g_iadd rfl ?_
            have t_62 : ((Int32.ofNat k) + (J 0)).toInt = ((k + W : Nat) : Int) := by rw [i_add (by rw [ek, hw0]; omega) (by rw [ek, hw0]; omega), ek, hw0]; omega
            refine g_aload_n (i := 0) rfl rfl ?_
            refine g_getfield (v := .int (J 0)) rfl hr (by decide) rfl ?_
            refine g_aload_n (i := 0) rfl rfl ?_
            refine g_getfield (v := .int (J 1)) rfl hr (by decide) rfl ?_
            refine g_imul rfl ?_
            refine g_icmp_ge 128 rfl rfl (fun c_63 => ?_) (fun c_63 => ?_)
            · skip
              rw [i_le, t_62, hwn] at c_63
              refine g_iinc (i := 5) (L1 := [some (.ref 60), some (.long x), none, some (.long ((s ||| ((Int64.ofNat 1) <<< ((Int32.ofNat (k - 1)).toInt64 &&& 63))) ||| ((Int64.ofNat 1) <<< ((Int32.ofNat (k + 1)).toInt64 &&& 63)))), none, some (.int ((Int32.ofNat k) + Int32.ofInt 1))]) rfl rfl rfl ?_
              rw [ofN_add (by omega)]
              refine g_goto 5 rfl rfl ?_
              refine ih (k + 1) _ (by omega) (bp_im b_60 (fun i hi => ?_))
              rw [nbP_s]
              have hb : (bt x k = true) = True := eq_true c_1
              rw [hb]
              unfold adj
              generalize nbP W (W * H) x k i = P
              constructor
              · intro z
                rcases z with z
                by_cases hP : P
                · exact Or.inl hP
                · refine Or.inr ⟨trivial, ?_⟩
                  simp only [hP, false_or] at z <;> omega
              · intro z
                by_cases hP : P
                · simp only [hP, true_or]
                · simp only [hP, false_or, true_and] at z ⊢
                  first | omega | (exact absurd z (by omega))
            · skip
              rw [i_le, t_62, hwn] at c_63
              refine g_lload_n (i := 3) rfl rfl ?_
              refine g_lconst (n := 1) rfl ?_
              show sGo none 222 _ 118 [some (.ref 60), some (.long x), none, some (.long ((s ||| ((Int64.ofNat 1) <<< ((Int32.ofNat (k - 1)).toInt64 &&& 63))) ||| ((Int64.ofNat 1) <<< ((Int32.ofNat (k + 1)).toInt64 &&& 63)))), none, some (.int (Int32.ofNat k))] [.long (Int64.ofNat 1), .long ((s ||| ((Int64.ofNat 1) <<< ((Int32.ofNat (k - 1)).toInt64 &&& 63))) ||| ((Int64.ofNat 1) <<< ((Int32.ofNat (k + 1)).toInt64 &&& 63)))] _ _
              refine g_iload (i := 5) rfl rfl ?_
              refine g_aload_n (i := 0) rfl rfl ?_
              refine g_getfield (v := .int (J 0)) rfl hr (by decide) rfl ?_
              refine g_iadd rfl ?_
              have t_64 : ((Int32.ofNat k) + (J 0)).toInt = ((k + W : Nat) : Int) := by rw [i_add (by rw [ek, hw0]; omega) (by rw [ek, hw0]; omega), ek, hw0]; omega
              have e_65 : Int32.ofNat k + J 0 = Int32.ofNat (k + W) := Int32.toInt_inj.mp (by rw [ofN_toInt (n := k + W) (by omega)]; omega)
              rw [e_65]
              have b_66 := bp_or1 (k := k + W) b_60 (by omega)
              refine g_lshl rfl ?_
              refine g_lor rfl ?_
              refine g_lstore_n (i := 3) (L1 := [some (.ref 60), some (.long x), none, some (.long (((s ||| ((Int64.ofNat 1) <<< ((Int32.ofNat (k - 1)).toInt64 &&& 63))) ||| ((Int64.ofNat 1) <<< ((Int32.ofNat (k + 1)).toInt64 &&& 63))) ||| ((Int64.ofNat 1) <<< ((Int32.ofNat (k + W)).toInt64 &&& 63)))), none, some (.int (Int32.ofNat k))]) rfl (Nat.le_of_ble_eq_true rfl) rfl ?_
              refine g_iinc (i := 5) (L1 := [some (.ref 60), some (.long x), none, some (.long (((s ||| ((Int64.ofNat 1) <<< ((Int32.ofNat (k - 1)).toInt64 &&& 63))) ||| ((Int64.ofNat 1) <<< ((Int32.ofNat (k + 1)).toInt64 &&& 63))) ||| ((Int64.ofNat 1) <<< ((Int32.ofNat (k + W)).toInt64 &&& 63)))), none, some (.int ((Int32.ofNat k) + Int32.ofInt 1))]) rfl rfl rfl ?_
              rw [ofN_add (by omega)]
              refine g_goto 5 rfl rfl ?_
              refine ih (k + 1) _ (by omega) (bp_im b_66 (fun i hi => ?_))
              rw [nbP_s]
              have hb : (bt x k = true) = True := eq_true c_1
              rw [hb]
              unfold adj
              generalize nbP W (W * H) x k i = P
              constructor
              · intro z
                rcases z with z
                by_cases hP : P
                · exact Or.inl hP
                · refine Or.inr ⟨trivial, ?_⟩
                  simp only [hP, false_or] at z <;> omega
              · intro z
                by_cases hP : P
                · simp only [hP, true_or]
                · simp only [hP, false_or, true_and] at z ⊢
                  first | omega | (exact absurd z (by omega))
          · skip
            rw [i_lt, ek, hw0] at c_61
            refine g_lload_n (i := 3) rfl rfl ?_
            refine g_lconst (n := 1) rfl ?_
            show sGo none 222 _ 87 [some (.ref 60), some (.long x), none, some (.long ((s ||| ((Int64.ofNat 1) <<< ((Int32.ofNat (k - 1)).toInt64 &&& 63))) ||| ((Int64.ofNat 1) <<< ((Int32.ofNat (k + 1)).toInt64 &&& 63)))), none, some (.int (Int32.ofNat k))] [.long (Int64.ofNat 1), .long ((s ||| ((Int64.ofNat 1) <<< ((Int32.ofNat (k - 1)).toInt64 &&& 63))) ||| ((Int64.ofNat 1) <<< ((Int32.ofNat (k + 1)).toInt64 &&& 63)))] _ _
            refine g_iload (i := 5) rfl rfl ?_
            refine g_aload_n (i := 0) rfl rfl ?_
            refine g_getfield (v := .int (J 0)) rfl hr (by decide) rfl ?_
            refine g_isub rfl ?_
            have t_67 : ((Int32.ofNat k) - (J 0)).toInt = ((k : Nat) : Int) - ((W : Nat) : Int) := by rw [i_sub (by rw [ek, hw0]; omega) (by rw [ek, hw0]; omega), ek, hw0]
            have e_68 : Int32.ofNat k - J 0 = Int32.ofNat (k - W) := Int32.toInt_inj.mp (by rw [ofN_toInt (n := k - W) (by omega)]; omega)
            rw [e_68]
            have b_69 := bp_or1 (k := k - W) b_60 (by omega)
            refine g_lshl rfl ?_
            refine g_lor rfl ?_
            refine g_lstore_n (i := 3) (L1 := [some (.ref 60), some (.long x), none, some (.long (((s ||| ((Int64.ofNat 1) <<< ((Int32.ofNat (k - 1)).toInt64 &&& 63))) ||| ((Int64.ofNat 1) <<< ((Int32.ofNat (k + 1)).toInt64 &&& 63))) ||| ((Int64.ofNat 1) <<< ((Int32.ofNat (k - W)).toInt64 &&& 63)))), none, some (.int (Int32.ofNat k))]) rfl (Nat.le_of_ble_eq_true rfl) rfl ?_
            refine g_iload (i := 5) rfl rfl ?_
            refine g_aload_n (i := 0) rfl rfl ?_
            refine g_getfield (v := .int (J 0)) rfl hr (by decide) rfl ?_
            refine g_iadd rfl ?_
            have t_70 : ((Int32.ofNat k) + (J 0)).toInt = ((k + W : Nat) : Int) := by rw [i_add (by rw [ek, hw0]; omega) (by rw [ek, hw0]; omega), ek, hw0]; omega
            refine g_aload_n (i := 0) rfl rfl ?_
            refine g_getfield (v := .int (J 0)) rfl hr (by decide) rfl ?_
            refine g_aload_n (i := 0) rfl rfl ?_
            refine g_getfield (v := .int (J 1)) rfl hr (by decide) rfl ?_
            refine g_imul rfl ?_
            refine g_icmp_ge 128 rfl rfl (fun c_71 => ?_) (fun c_71 => ?_)
            · skip
              rw [i_le, t_70, hwn] at c_71
              refine g_iinc (i := 5) (L1 := [some (.ref 60), some (.long x), none, some (.long (((s ||| ((Int64.ofNat 1) <<< ((Int32.ofNat (k - 1)).toInt64 &&& 63))) ||| ((Int64.ofNat 1) <<< ((Int32.ofNat (k + 1)).toInt64 &&& 63))) ||| ((Int64.ofNat 1) <<< ((Int32.ofNat (k - W)).toInt64 &&& 63)))), none, some (.int ((Int32.ofNat k) + Int32.ofInt 1))]) rfl rfl rfl ?_
              rw [ofN_add (by omega)]
              refine g_goto 5 rfl rfl ?_
              refine ih (k + 1) _ (by omega) (bp_im b_69 (fun i hi => ?_))
              rw [nbP_s]
              have hb : (bt x k = true) = True := eq_true c_1
              rw [hb]
              unfold adj
              generalize nbP W (W * H) x k i = P
              constructor
              · intro z
                rcases z with z
                by_cases hP : P
                · exact Or.inl hP
                · refine Or.inr ⟨trivial, ?_⟩
                  simp only [hP, false_or] at z <;> omega
              · intro z
                by_cases hP : P
                · simp only [hP, true_or]
                · simp only [hP, false_or, true_and] at z ⊢
                  first | omega | (exact absurd z (by omega))
            · skip
              rw [i_le, t_70, hwn] at c_71
              refine g_lload_n (i := 3) rfl rfl ?_
              refine g_lconst (n := 1) rfl ?_
              show sGo none 222 _ 118 [some (.ref 60), some (.long x), none, some (.long (((s ||| ((Int64.ofNat 1) <<< ((Int32.ofNat (k - 1)).toInt64 &&& 63))) ||| ((Int64.ofNat 1) <<< ((Int32.ofNat (k + 1)).toInt64 &&& 63))) ||| ((Int64.ofNat 1) <<< ((Int32.ofNat (k - W)).toInt64 &&& 63)))), none, some (.int (Int32.ofNat k))] [.long (Int64.ofNat 1), .long (((s ||| ((Int64.ofNat 1) <<< ((Int32.ofNat (k - 1)).toInt64 &&& 63))) ||| ((Int64.ofNat 1) <<< ((Int32.ofNat (k + 1)).toInt64 &&& 63))) ||| ((Int64.ofNat 1) <<< ((Int32.ofNat (k - W)).toInt64 &&& 63)))] _ _
              refine g_iload (i := 5) rfl rfl ?_
              refine g_aload_n (i := 0) rfl rfl ?_
              refine g_getfield (v := .int (J 0)) rfl hr (by decide) rfl ?_
              refine g_iadd rfl ?_
              have t_72 : ((Int32.ofNat k) + (J 0)).toInt = ((k + W : Nat) : Int) := by rw [i_add (by rw [ek, hw0]; omega) (by rw [ek, hw0]; omega), ek, hw0]; omega
              have e_73 : Int32.ofNat k + J 0 = Int32.ofNat (k + W) := Int32.toInt_inj.mp (by rw [ofN_toInt (n := k + W) (by omega)]; omega)
              rw [e_73]
              have b_74 := bp_or1 (k := k + W) b_69 (by omega)
              refine g_lshl rfl ?_
              refine g_lor rfl ?_
              refine g_lstore_n (i := 3) (L1 := [some (.ref 60), some (.long x), none, some (.long ((((s ||| ((Int64.ofNat 1) <<< ((Int32.ofNat (k - 1)).toInt64 &&& 63))) ||| ((Int64.ofNat 1) <<< ((Int32.ofNat (k + 1)).toInt64 &&& 63))) ||| ((Int64.ofNat 1) <<< ((Int32.ofNat (k - W)).toInt64 &&& 63))) ||| ((Int64.ofNat 1) <<< ((Int32.ofNat (k + W)).toInt64 &&& 63)))), none, some (.int (Int32.ofNat k))]) rfl (Nat.le_of_ble_eq_true rfl) rfl ?_
              refine g_iinc (i := 5) (L1 := [some (.ref 60), some (.long x), none, some (.long ((((s ||| ((Int64.ofNat 1) <<< ((Int32.ofNat (k - 1)).toInt64 &&& 63))) ||| ((Int64.ofNat 1) <<< ((Int32.ofNat (k + 1)).toInt64 &&& 63))) ||| ((Int64.ofNat 1) <<< ((Int32.ofNat (k - W)).toInt64 &&& 63))) ||| ((Int64.ofNat 1) <<< ((Int32.ofNat (k + W)).toInt64 &&& 63)))), none, some (.int ((Int32.ofNat k) + Int32.ofInt 1))]) rfl rfl rfl ?_
              rw [ofN_add (by omega)]
              refine g_goto 5 rfl rfl ?_
              refine ih (k + 1) _ (by omega) (bp_im b_74 (fun i hi => ?_))
              rw [nbP_s]
              have hb : (bt x k = true) = True := eq_true c_1
              rw [hb]
              unfold adj
              generalize nbP W (W * H) x k i = P
              constructor
              · intro z
                rcases z with z
                by_cases hP : P
                · exact Or.inl hP
                · refine Or.inr ⟨trivial, ?_⟩
                  simp only [hP, false_or] at z <;> omega
              · intro z
                by_cases hP : P
                · simp only [hP, true_or]
                · simp only [hP, false_or, true_and] at z ⊢
                  first | omega | (exact absurd z (by omega))
    · skip
      rw [zI_eq0] at c_1
      refine g_goto 128 rfl rfl ?_
      refine g_iinc (i := 5) (L1 := [some (.ref 60), some (.long x), none, some (.long s), none, some (.int ((Int32.ofNat k) + Int32.ofInt 1))]) rfl rfl rfl ?_
      rw [ofN_add (by omega)]
      refine g_goto 5 rfl rfl ?_
      exact ih (k + 1) _ (by omega) (bp_im hs (fun i hi => by rw [nbP_s]; exact ⟨Or.inl, fun z => z.resolve_right (fun y => c_1 y.1)⟩))
theorem s_beside12 {d : Nat} {h : sHp} {J : Nat → Int32} {W H : Nat} {x : Int64} (hd : 2 ≤ d) (hr : h[60]? = some (mO J)) (g : gdM J W H) : sDo d 222 [.ref 60, .long x] h (fun r h' => h' = h ∧ r = some (.long (besS W (W * H) x))) := by
  have key := s_beside_go (d := d - 1) (x := x) (by omega) hr g (W * H) 0 (Int64.ofNat 0) (by omega) (bp_0 (fun i z => by obtain ⟨q, h1, -⟩ := z; omega))
  refine sDo_of1 (nL := 6) (L := [some (.ref 60), some (.long x), none, none, none, none]) (by omega) rfl rfl ?_
  refine g_lconst (n := 0) rfl ?_
  show sGo none 222 _ 1 [some (.ref 60), some (.long x), none, none, none, none] [.long (Int64.ofNat 0)] _ _
  refine g_lstore_n (i := 3) (L1 := [some (.ref 60), some (.long x), none, some (.long (Int64.ofNat 0)), none, none]) rfl (Nat.le_of_ble_eq_true rfl) rfl ?_
  refine g_iconst (n := 0) rfl ?_
  refine g_istore (i := 5) (L1 := [some (.ref 60), some (.long x), none, some (.long (Int64.ofNat 0)), none, some (.int (Int32.ofInt 0))]) rfl (Nat.le_of_ble_eq_true rfl) rfl ?_
  exact key
theorem s_beside12r {d : Nat} {h : sHp} {J : Nat → Int32} {W H : Nat} {x : Int64} (hd : 2 ≤ d) (hr : h[60]? = some (mO J)) (g : gdM J W H) : sDo d 222 [.ref 60, .long x] h (fun r h' => h' = h ∧ r = some (.long (besS W (W * H) x))) := s_beside12 hd hr g
/-- inside a set -/
def sb (x y : Int64) : Prop := ∀ i, i < 64 → bt x i = true → bt y i = true
def inN (x : Int64) (n : Nat) : Prop := ∀ i, i < 64 → bt x i = true → i < n
theorem bes_n {W H : Nat} {x : Int64} (w2 : 2 ≤ W) (w8 : W ≤ 8) (h8 : H ≤ 8) (hn : W * H ≤ 64) : inN (besS W (W * H) x) (W * H) := fun i hi h => by
  obtain ⟨q, h1, h2, h3⟩ := (bp_stC _ i hi).mp h
  have hni := nxt_in W (by omega) H (by omega) q (by omega) h1
  unfold adj at h3
  rcases h3 with h3 | h3 | h3 | h3
  · omega
  · have := hni h3.2; omega
  · omega
  · exact h3.2
theorem with_eq {c : CF} {W H : Nat} {x : Int64} (g : gdF c W H) (hx : inN x (W * H)) : (x ||| ((((x <<< ((c.1 0).toInt64 &&& 63)) ||| ((x.toUInt64 >>> ((c.1 0).toInt64.toUInt64 &&& Int64.toUInt64 63)).toInt64)) ||| ((x &&& (c.2.1 4 ^^^ lM1)) <<< ((Int32.ofInt 1).toInt64 &&& 63))) ||| ((((x &&& (c.2.1 3 ^^^ lM1))).toUInt64 >>> ((Int32.ofInt 1).toInt64.toUInt64 &&& Int64.toUInt64 63)).toInt64))) &&& c.2.1 2 = x ||| besS W (W * H) x := by
  have hn := gdF_n g
  obtain ⟨gw, gh, w2, w8, h2, h8, g2, g3, g4, g5, g6⟩ := g
  rw [gw, g2, g3, g4, show Int32.ofInt 1 = Int32.ofNat 1 from rfl]
  apply bt_ext
  intro i hi
  rw [bt_and, bt_or, bt_or, bt_or, bt_or, bt_or, bt_shl (by omega), bt_ushr (by omega), bt_shl (by omega), bt_ushr (by omega), bt_and, bt_not, bt_and, bt_not, bt_stO _ _ hn.1, bt_stO _ _ hn.1, bt_stO _ _ hn.1]
  have hb := bp_stC (nbP W (W * H) x (W * H)) i hi
  have hbn := bes_n (x := x) w2 w8 h8 hn.1 i hi
  have hxi := hx i hi
  have hml := Nat.mod_lt (i - 1) (show W > 0 by omega)
  have hml2 := Nat.mod_lt (i + 1) (show W > 0 by omega)
  apply Bool.eq_iff_iff.mpr
  simp only [Bool.and_eq_true, Bool.or_eq_true, Bool.not_eq_true', Bool.and_eq_false_iff, decide_eq_true_eq, decide_eq_false_iff_not, Bool.and_true]
  show _ ↔ bt x i = true ∨ bt (besS W (W * H) x) i = true
  unfold besS at hbn ⊢
  rw [hb]
  rw [hb] at hbn
  constructor
  · rintro ⟨z, hin⟩
    rcases z with z | z
    · exact Or.inl z
    · refine Or.inr ?_
      rcases z with ((z | z) | z) | z
      · exact ⟨i - W, by omega, z.2.2, Or.inr (Or.inr (Or.inr ⟨by omega, hin⟩))⟩
      · have hlt : i + W < 64 := Classical.byContradiction (fun y => by rw [bt_big (by omega)] at z; cases z)
        exact ⟨i + W, hx _ hlt z, z, Or.inr (Or.inr (Or.inl rfl))⟩
      · obtain ⟨z1, z2, z3, z4, z5⟩ := z
        exact ⟨i - 1, by omega, z3, Or.inr (Or.inl ⟨by omega, by omega⟩)⟩
      · obtain ⟨z3, z4, z5⟩ := z
        have := hx _ z4 z3
        exact ⟨i + 1, this, z3, Or.inl ⟨rfl, by omega⟩⟩
  · rintro (z | z)
    · exact ⟨Or.inl z, hxi z⟩
    · refine ⟨Or.inr ?_, hbn z⟩
      obtain ⟨q, h1, h2', h3⟩ := z
      unfold adj at h3
      rcases h3 with ⟨rfl, h4⟩ | ⟨rfl, h4⟩ | rfl | ⟨rfl, h4⟩
      · exact Or.inr ⟨h2', by omega, Or.inr (by omega)⟩
      · refine Or.inl (Or.inr ⟨hi, by omega, ?_⟩)
        rw [Nat.add_sub_cancel]
        exact ⟨h2', by omega, Or.inr (by omega)⟩
      · exact Or.inl (Or.inl (Or.inr h2'))
      · refine Or.inl (Or.inl (Or.inl ⟨hi, by omega, ?_⟩))
        rw [Nat.add_sub_cancel]
        exact h2' 
theorem s_withBeside {d : Nat} {h : sHp} {p : Nat} {c : CF} {W H : Nat} {x : Int64} (hd : 1 ≤ d) (F : FC h p c) (g : gdF c W H) (hx : inN x (W * H)) : sDo d 44 [.ref p, .long x] h (fun r h' => h' = h ∧ r = some (.long (x ||| besS W (W * H) x))) := by
  have key := with_eq g hx
  refine sDo_of1 (nL := 5) (L := [some (.ref p), some (.long x), none, none, none]) (by omega) rfl rfl ?_
  refine g_lload_n (i := 1) rfl rfl ?_
  refine g_aload_n (i := 0) rfl rfl ?_
  refine g_getfield (v := .int (c.1 0)) rfl F.1 (by decide) rfl ?_
  refine g_lshl rfl ?_
  refine g_lload_n (i := 1) rfl rfl ?_
  refine g_aload_n (i := 0) rfl rfl ?_
  refine g_getfield (v := .int (c.1 0)) rfl F.1 (by decide) rfl ?_
  refine g_lushr rfl ?_
  refine g_lor rfl ?_
  refine g_lload_n (i := 1) rfl rfl ?_
  refine g_aload_n (i := 0) rfl rfl ?_
  refine g_getfield (v := .long (c.2.1 4)) rfl F.1 (by decide) rfl ?_
  refine g_ldc2_w (j := 18446744073709551615) rfl ?_
  refine g_lxor rfl ?_
  refine g_land rfl ?_
  refine g_iconst (n := 1) rfl ?_
  refine g_lshl rfl ?_
  refine g_lor rfl ?_
  refine g_lload_n (i := 1) rfl rfl ?_
  refine g_aload_n (i := 0) rfl rfl ?_
  refine g_getfield (v := .long (c.2.1 3)) rfl F.1 (by decide) rfl ?_
  refine g_ldc2_w (j := 18446744073709551615) rfl ?_
  refine g_lxor rfl ?_
  refine g_land rfl ?_
  refine g_iconst (n := 1) rfl ?_
  refine g_lushr rfl ?_
  refine g_lor rfl ?_
  refine g_lstore_n (i := 3) (L1 := [some (.ref p), some (.long x), none, some (.long ((((x <<< ((c.1 0).toInt64 &&& 63)) ||| ((x.toUInt64 >>> ((c.1 0).toInt64.toUInt64 &&& Int64.toUInt64 63)).toInt64)) ||| ((x &&& ((c.2.1 4) ^^^ (Int64.ofNat 18446744073709551615))) <<< ((Int32.ofInt 1).toInt64 &&& 63))) ||| (((x &&& ((c.2.1 3) ^^^ (Int64.ofNat 18446744073709551615))).toUInt64 >>> ((Int32.ofInt 1).toInt64.toUInt64 &&& Int64.toUInt64 63)).toInt64))), none]) rfl (Nat.le_of_ble_eq_true rfl) rfl ?_
  refine g_lload_n (i := 1) rfl rfl ?_
  refine g_lload_n (i := 3) rfl rfl ?_
  refine g_lor rfl ?_
  refine g_aload_n (i := 0) rfl rfl ?_
  refine g_getfield (v := .long (c.2.1 2)) rfl F.1 (by decide) rfl ?_
  refine g_land rfl ?_
  refine g_lreturn rfl rfl ?_
  exact ⟨rfl, congrArg (fun z => some (Value.long z)) key⟩
noncomputable def stpS (W n : Nat) (set x : Int64) : Int64 := x ||| (besS W n x &&& set)
noncomputable def grS (W n : Nat) (set : Int64) : Nat → Int64 → Int64
  | 0, x => x
  | f + 1, x => if stpS W n set x = x then x else grS W n set f (stpS W n set x)

noncomputable def grF (W n : Nat) (set x : Int64) : Int64 := grS W n set 65 x
theorem stp_sb {W n : Nat} {set x : Int64} : sb x (stpS W n set x) := fun i _ h => by
  unfold stpS
  rw [bt_or, h]; rfl
theorem stp_in {W n : Nat} {set x : Int64} (h : sb x set) : sb (stpS W n set x) set := fun i hi z => by
  unfold stpS at z
  rw [bt_or, bt_and, Bool.or_eq_true, Bool.and_eq_true] at z
  rcases z with z | z
  · exact h i hi z
  · exact z.2
theorem stp_lt {W n : Nat} {set x : Int64} (h : ¬ stpS W n set x = x) : cnt x < cnt (stpS W n set x) := cnt_lt stp_sb (fun z => h z.symm)
theorem grS_up {W n : Nat} {set : Int64} : ∀ (f : Nat) (x : Int64), 64 - cnt x < f → grS W n set (f + 1) x = grS W n set f x := by
  intro f
  induction f with
  | zero => intro x h; omega
  | succ f ih =>
    intro x h
    have hc := cnt_le (stpS W n set x)
    rw [show grS W n set (f + 1 + 1) x = if stpS W n set x = x then x else grS W n set (f + 1) (stpS W n set x) from rfl, show grS W n set (f + 1) x = if stpS W n set x = x then x else grS W n set f (stpS W n set x) from rfl]
    by_cases e : stpS W n set x = x
    · rw [if_pos e, if_pos e]
    · rw [if_neg e, if_neg e]
      have := stp_lt e
      exact ih _ (by omega)
theorem stp_0 {W n : Nat} {set : Int64} : stpS W n set (Int64.ofNat 0) = Int64.ofNat 0 := bt_ext (fun i hi => by
  have hb : bt (besS W n (Int64.ofNat 0)) i = false := by
    apply Bool.eq_false_iff.mpr
    intro z
    obtain ⟨q, h1, h2, h3⟩ := (bp_stC _ i hi).mp z
    rw [bt_0] at h2
    cases h2
  unfold stpS
  rw [bt_or, bt_and, bt_0, hb]; rfl)
theorem gr_64 {W n : Nat} {set x : Int64} : grS W n set 64 x = grF W n set x := by
  by_cases e : x = Int64.ofNat 0
  · subst e
    unfold grF
    rw [show grS W n set 64 (Int64.ofNat 0) = if stpS W n set (Int64.ofNat 0) = Int64.ofNat 0 then Int64.ofNat 0 else _ from rfl, show grS W n set 65 (Int64.ofNat 0) = if stpS W n set (Int64.ofNat 0) = Int64.ofNat 0 then Int64.ofNat 0 else _ from rfl, if_pos stp_0, if_pos stp_0]
  · have h1 : cnt x ≠ 0 := fun z => e (cnt_z z)
    have h2 := cnt_le x
    exact (grS_up 64 x (by omega)).symm
theorem gr_sb {W n : Nat} {set : Int64} : ∀ (f : Nat) (x : Int64), sb x (grS W n set f x) := by
  intro f
  induction f with
  | zero => intro x i _ h; exact h
  | succ f ih =>
    intro x i hi h
    unfold grS
    split
    · exact h
    · exact ih _ i hi (stp_sb i hi h)
theorem gr_in {W n : Nat} {set : Int64} : ∀ (f : Nat) (x : Int64), sb x set → sb (grS W n set f x) set := by
  intro f
  induction f with
  | zero => intro x h; exact h
  | succ f ih =>
    intro x h
    unfold grS
    split
    · exact h
    · exact ih _ (stp_in h)
theorem sb_and {x y : Int64} : sb (x &&& y) y := fun i _ h => by
  rw [bt_and, Bool.and_eq_true] at h; exact h.2
theorem s_grown11_go {d : Nat} {h : sHp} {p : Nat} {c : CF} {W H : Nat} {q0 set : Int64} (hd : 1 ≤ d) (F : FC h p c) (g : gdF c W H) (hs : inN set (W * H)) : ∀ (f : Nat) (x : Int64) (k : Nat) (o8 : Option Value), f + k = 64 → sb x set → sGo none 45 d 8 [some (.ref p), some (.long q0), none, some (.long set), none, some (.long x), none, some (.int (Int32.ofNat k)), o8, none] [] h (fun r h' => h' = h ∧ r = some (.long (grS W (W * H) set f x))) := by
  intro f
  induction f with
  | zero =>
    intro x k o8 hk hx
    have ek := ofN_toInt (n := k) (by omega)
    have e64 : (Int8.ofInt 64).toInt32.toInt = 64 := rfl
    refine g_iload (i := 7) rfl rfl ?_
    refine g_bipush (n := 64) rfl ?_
    refine g_icmp_ge 46 rfl rfl (fun _ => ?_) (fun hc => absurd hc (by rw [i_le, ek, e64]; omega))
    refine g_lload (i := 5) rfl rfl ?_
    refine g_lreturn rfl rfl ?_
    exact ⟨rfl, rfl⟩
  | succ f ih =>
    intro x k o8 hk hx
    have ek := ofN_toInt (n := k) (by omega)
    have e64 : (Int8.ofInt 64).toInt32.toInt = 64 := rfl
    have hxn : inN x (W * H) := fun i hi z => hs i hi (hx i hi z)
    have hnx : (x ||| besS W (W * H) x) &&& set = stpS W (W * H) set x := bt_ext (fun i hi => by
      unfold stpS
      rw [bt_and, bt_or, bt_or, bt_and]
      by_cases z : bt x i = true
      · rw [z, hx i hi z]; rfl
      · rw [nTF z, Bool.false_or, Bool.false_or])
    refine g_iload (i := 7) rfl rfl ?_
    refine g_bipush (n := 64) rfl ?_
    refine g_icmp_ge 46 rfl rfl (fun hc => absurd hc (by rw [i_le, ek, e64]; omega)) (fun _ => ?_)
    refine g_aload_n (i := 0) rfl rfl ?_
    refine g_lload (i := 5) rfl rfl ?_
    refine g_virt1 (Qc := fun r h' => h' = h ∧ r = some (.long (x ||| besS W (W * H) x))) rfl (by decide) rfl F.1 rfl (Nat.le_of_ble_eq_true rfl) (s_withBeside (by omega) F g hxn) (fun r h hq9 => ?_)
    obtain ⟨rfl, rfl⟩ := hq9
    refine g_lload_n (i := 3) rfl rfl ?_
    refine g_land rfl ?_
    rw [hnx]
    refine g_lstore (i := 8) (L1 := [some (.ref p), some (.long q0), none, some (.long set), none, some (.long x), none, some (.int (Int32.ofNat k)), some (.long (stpS W (W * H) set x)), none]) rfl (Nat.le_of_ble_eq_true rfl) rfl ?_
    refine g_lload (i := 8) rfl rfl ?_
    refine g_lload (i := 5) rfl rfl ?_
    refine g_lcmp rfl ?_
    refine g_if_ne 36 rfl rfl (fun c_1 => ?_) (fun c_1 => ?_)
    · skip
      rw [lc_eq] at c_1
      refine g_lload (i := 8) rfl rfl ?_
      refine g_lstore (i := 5) (L1 := [some (.ref p), some (.long q0), none, some (.long set), none, some (.long (stpS W (W * H) set x)), none, some (.int (Int32.ofNat k)), some (.long (stpS W (W * H) set x)), none]) rfl (Nat.le_of_ble_eq_true rfl) rfl ?_
      refine g_iinc (i := 7) (L1 := [some (.ref p), some (.long q0), none, some (.long set), none, some (.long (stpS W (W * H) set x)), none, some (.int ((Int32.ofNat k) + Int32.ofInt 1)), some (.long (stpS W (W * H) set x)), none]) rfl rfl rfl ?_
      rw [ofN_add (by omega)]
      refine g_goto 8 rfl rfl ?_
      have key := ih (stpS W (W * H) set x) (k + 1) (some (.long (stpS W (W * H) set x))) (by omega) (stp_in hx)
      rw [show grS W (W * H) set (f + 1) x = if stpS W (W * H) set x = x then x else grS W (W * H) set f (stpS W (W * H) set x) from rfl, if_neg c_1]
      exact key
    · skip
      rw [lc_eq] at c_1
      refine g_lload (i := 5) rfl rfl ?_
      refine g_lreturn rfl rfl ?_
      exact ⟨rfl, by rw [show grS W (W * H) set (f + 1) x = if stpS W (W * H) set x = x then x else grS W (W * H) set f (stpS W (W * H) set x) from rfl, if_pos c_1]⟩
theorem s_grown11 {d : Nat} {h : sHp} {p : Nat} {c : CF} {W H : Nat} {q0 set : Int64} (hd : 2 ≤ d) (F : FC h p c) (g : gdF c W H) (hs : inN set (W * H)) : sDo d 45 [.ref p, .long q0, .long set] h (fun r h' => h' = h ∧ r = some (.long (grF W (W * H) set (q0 &&& set)))) := by
  have key := s_grown11_go (d := d - 1) (q0 := q0) (by omega) F g hs 64 (q0 &&& set) 0 none rfl sb_and
  rw [gr_64] at key
  refine sDo_of1 (nL := 10) (L := [some (.ref p), some (.long q0), none, some (.long set), none, none, none, none, none, none]) (by omega) rfl rfl ?_
  refine g_lload_n (i := 1) rfl rfl ?_
  refine g_lload_n (i := 3) rfl rfl ?_
  refine g_land rfl ?_
  refine g_lstore (i := 5) (L1 := [some (.ref p), some (.long q0), none, some (.long set), none, some (.long (q0 &&& set)), none, none, none, none]) rfl (Nat.le_of_ble_eq_true rfl) rfl ?_
  refine g_iconst (n := 0) rfl ?_
  refine g_istore (i := 7) (L1 := [some (.ref p), some (.long q0), none, some (.long set), none, some (.long (q0 &&& set)), none, some (.int (Int32.ofInt 0)), none, none]) rfl (Nat.le_of_ble_eq_true rfl) rfl ?_
  exact key
theorem s_grown12_go {d : Nat} {h : sHp} {J : Nat → Int32} {W H : Nat} {q0 set : Int64} (hd : 2 ≤ d) (hr : h[60]? = some (mO J)) (g : gdM J W H) : ∀ (f : Nat) (x : Int64), 64 - cnt x < f → sGo none 223 d 18 [some (.ref 60), some (.long q0), none, some (.long set), none, some (.long x), none, some (.long (stpS W (W * H) set x)), none] [] h (fun r h' => h' = h ∧ r = some (.long (grS W (W * H) set f x))) := by
  intro f
  induction f with
  | zero => intro x h; omega
  | succ f ih =>
    intro x hf
    have hc2 := cnt_le (stpS W (W * H) set x)
    refine g_lload (i := 7) rfl rfl ?_
    refine g_lload (i := 5) rfl rfl ?_
    refine g_lcmp rfl ?_
    refine g_if_eq 46 rfl rfl (fun c_1 => ?_) (fun c_1 => ?_)
    · skip
      rw [lc_eq] at c_1
      refine g_lload (i := 5) rfl rfl ?_
      refine g_lreturn rfl rfl ?_
      exact ⟨rfl, by rw [show grS W (W * H) set (f + 1) x = if stpS W (W * H) set x = x then x else grS W (W * H) set f (stpS W (W * H) set x) from rfl, if_pos c_1]⟩
    · skip
      rw [lc_eq] at c_1
      refine g_lload (i := 7) rfl rfl ?_
      refine g_lstore (i := 5) (L1 := [some (.ref 60), some (.long q0), none, some (.long set), none, some (.long (stpS W (W * H) set x)), none, some (.long (stpS W (W * H) set x)), none]) rfl (Nat.le_of_ble_eq_true rfl) rfl ?_
      refine g_lload (i := 5) rfl rfl ?_
      refine g_aload_n (i := 0) rfl rfl ?_
      refine g_lload (i := 5) rfl rfl ?_
      refine g_virt1 (Qc := fun r h' => h' = h ∧ r = some (.long (besS W (W * H) (stpS W (W * H) set x)))) rfl (by decide) rfl hr rfl (Nat.le_of_ble_eq_true rfl) (s_beside12 (by omega) hr g) (fun r h hq9 => ?_)
      obtain ⟨rfl, rfl⟩ := hq9
      refine g_lload_n (i := 3) rfl rfl ?_
      refine g_land rfl ?_
      refine g_lor rfl ?_
      refine g_lstore (i := 7) (L1 := [some (.ref 60), some (.long q0), none, some (.long set), none, some (.long (stpS W (W * H) set x)), none, some (.long ((stpS W (W * H) set x) ||| ((besS W (W * H) (stpS W (W * H) set x)) &&& set))), none]) rfl (Nat.le_of_ble_eq_true rfl) rfl ?_
      refine g_goto 18 rfl rfl ?_
      exact (show grS W (W * H) set (f + 1) x = _ from if_neg c_1) ▸ ih _ (by have := stp_lt c_1; omega)
theorem s_grown12 {d : Nat} {h : sHp} {J : Nat → Int32} {W H : Nat} {q0 set : Int64} (hd : 3 ≤ d) (hr : h[60]? = some (mO J)) (g : gdM J W H) : sDo d 223 [.ref 60, .long q0, .long set] h (fun r h' => h' = h ∧ r = some (.long (grF W (W * H) set (q0 &&& set)))) := by
  have key := s_grown12_go (d := d - 1) (q0 := q0) (set := set) (by omega) hr g 65 (q0 &&& set) (by omega)
  refine sDo_of1 (nL := 9) (L := [some (.ref 60), some (.long q0), none, some (.long set), none, none, none, none, none]) (by omega) rfl rfl ?_
  refine g_lload_n (i := 1) rfl rfl ?_
  refine g_lload_n (i := 3) rfl rfl ?_
  refine g_land rfl ?_
  refine g_lstore (i := 5) (L1 := [some (.ref 60), some (.long q0), none, some (.long set), none, some (.long (q0 &&& set)), none, none, none]) rfl (Nat.le_of_ble_eq_true rfl) rfl ?_
  refine g_lload (i := 5) rfl rfl ?_
  refine g_aload_n (i := 0) rfl rfl ?_
  refine g_lload (i := 5) rfl rfl ?_
  refine g_virt1 (Qc := fun r h' => h' = h ∧ r = some (.long (besS W (W * H) (q0 &&& set)))) rfl (by decide) rfl hr rfl (Nat.le_of_ble_eq_true rfl) (s_beside12 (by omega) hr g) (fun r h hq9 => ?_)
  obtain ⟨rfl, rfl⟩ := hq9
  refine g_lload_n (i := 3) rfl rfl ?_
  refine g_land rfl ?_
  refine g_lor rfl ?_
  refine g_lstore (i := 7) (L1 := [some (.ref 60), some (.long q0), none, some (.long set), none, some (.long (q0 &&& set)), none, some (.long ((q0 &&& set) ||| ((besS W (W * H) (q0 &&& set)) &&& set))), none]) rfl (Nat.le_of_ble_eq_true rfl) rfl ?_
  exact key
noncomputable def ptS (W n : Nat) : Nat → Int64 → Nat
  | 0, _ => 0
  | f + 1, x => if x = Int64.ofNat 0 then 0 else ptS W n f (x &&& (grF W n x ((x &&& -x) &&& x) ^^^ lM1)) + 1
theorem neg_low {x : Int64} {j : Nat} (hj : j < 64) (h1 : bt x j = true) (h0 : ∀ i, i < j → bt x i = false) : bt (x &&& -x) j = true := by
  rw [bt_and, h1, Bool.true_and]
  show (-x.toBitVec).getLsbD j = true
  rw [BitVec.getLsbD_neg]
  have e : (∃ k, k < j ∧ x.toBitVec.getLsbD k = true) = False := by
    apply eq_false
    rintro ⟨k, hk, hz⟩
    have := h0 k hk
    unfold bt at this
    rw [this] at hz
    cases hz
  have h2 : x.toBitVec.getLsbD j = true := h1
  simp only [h2, e, decide_false, Bool.and_false]
  rfl
theorem pt_lt {W n : Nat} {x : Int64} (hx : x ≠ Int64.ofNat 0) : cnt (x &&& (grF W n x ((x &&& -x) &&& x) ^^^ lM1)) < cnt x := by
  obtain ⟨j, h1, h2, h3⟩ := low_of hx
  have hg : bt (grF W n x ((x &&& -x) &&& x)) j = true := gr_sb 65 _ j h1 (by rw [bt_and, neg_low h1 h2 h3, h2]; rfl)
  refine cntB_lt (fun i _ z => ?_) (j := j) ?_ h2 64 (by omega) h1
  · rw [bt_and, Bool.and_eq_true] at z; exact z.1
  · rw [bt_and, bt_not, hg]; simp
theorem pt_up {W n : Nat} : ∀ (f : Nat) (x : Int64), cnt x ≤ f → ∀ f', f ≤ f' → ptS W n f' x = ptS W n f x := by
  intro f
  induction f with
  | zero =>
    intro x h f' _
    have e := cnt_z (show cnt x = 0 by omega)
    subst e
    cases f' with
    | zero => rfl
    | succ f' => exact if_pos rfl
  | succ f ih =>
    intro x h f' hf
    obtain ⟨e, rfl⟩ : ∃ e, f' = e + 1 := ⟨f' - 1, by omega⟩
    unfold ptS
    by_cases hx : x = Int64.ofNat 0
    · rw [if_pos hx, if_pos hx]
    · rw [if_neg hx, if_neg hx, ih _ (by have := pt_lt (W := W) (n := n) hx; omega) e (by omega)]
theorem ptS_le {W n : Nat} : ∀ (f : Nat) (x : Int64), ptS W n f x ≤ f := by
  intro f
  induction f with
  | zero => intro x; exact Nat.le_refl 0
  | succ f ih =>
    intro x
    unfold ptS
    split
    · omega
    · have := ih (x &&& (grF W n x ((x &&& -x) &&& x) ^^^ lM1)); omega
theorem s_pieces_go {d : Nat} {h : sHp} {p : Nat} {c : CF} {W H : Nat} {set : Int64} (hd : 2 ≤ d) (F : FC h p c) (g : gdF c W H) : ∀ (f : Nat) (x : Int64) (k : Nat), k + f = 64 → cnt x ≤ f → inN x (W * H) → sGo none 46 d 10 [some (.ref p), some (.long set), none, some (.long x), none, some (.int (Int32.ofNat k))] [] h (fun r h' => h' = h ∧ r = some (.int (Int32.ofNat (ptS W (W * H) f x + k)))) := by
  intro f
  induction f with
  | zero =>
    intro x k hk hc hx
    have hz := cnt_z (show cnt x = 0 by omega)
    refine g_lload_n (i := 3) rfl rfl ?_
    refine g_lconst (n := 0) rfl ?_
    show sGo none 46 _ 12 [some (.ref p), some (.long set), none, some (.long x), none, some (.int (Int32.ofNat k))] [.long (Int64.ofNat 0), .long x] _ _
    refine g_lcmp rfl ?_
    refine g_if_eq 45 rfl rfl (fun _ => ?_) (fun hc => absurd hc (by exact fun z => z (lc_eq.mpr hz)))
    refine g_iload (i := 5) rfl rfl ?_
    refine g_ireturn (ty := .int) rfl rfl rfl ?_
    exact ⟨rfl, by rw [show ptS W (W * H) 0 x = 0 from rfl, Nat.zero_add]⟩
  | succ f ih =>
    intro x k hk hc hx
    have ek := ofN_toInt (n := k) (by omega)
    have e64 : (Int8.ofInt 64).toInt32.toInt = 64 := rfl
    refine g_lload_n (i := 3) rfl rfl ?_
    refine g_lconst (n := 0) rfl ?_
    show sGo none 46 _ 12 [some (.ref p), some (.long set), none, some (.long x), none, some (.int (Int32.ofNat k))] [.long (Int64.ofNat 0), .long x] _ _
    refine g_lcmp rfl ?_
    refine g_if_eq 45 rfl rfl (fun c_1 => ?_) (fun c_1 => ?_)
    · skip
      rw [lc_eq] at c_1
      refine g_iload (i := 5) rfl rfl ?_
      refine g_ireturn (ty := .int) rfl rfl rfl ?_
      exact ⟨rfl, by rw [show ptS W (W * H) (f + 1) x = _ from if_pos c_1, Nat.zero_add]⟩
    · skip
      rw [lc_eq] at c_1
      refine g_iload (i := 5) rfl rfl ?_
      refine g_bipush (n := 64) rfl ?_
      refine g_icmp_ge 45 rfl rfl (fun hc => absurd hc (by rw [i_le, ek, e64]; omega)) (fun _ => ?_)
      refine g_lload_n (i := 3) rfl rfl ?_
      refine g_aload_n (i := 0) rfl rfl ?_
      refine g_lload_n (i := 3) rfl rfl ?_
      refine g_lload_n (i := 3) rfl rfl ?_
      refine g_lneg rfl ?_
      refine g_land rfl ?_
      refine g_lload_n (i := 3) rfl rfl ?_
      refine g_virt2 (Qc := fun r h' => h' = h ∧ r = some (.long (grF W (W * H) x ((x &&& (-x)) &&& x)))) rfl (by decide) rfl F.1 rfl (Nat.le_of_ble_eq_true rfl) (s_grown11 (by omega) F g hx) (fun r h hq9 => ?_)
      obtain ⟨rfl, rfl⟩ := hq9
      refine g_ldc2_w (j := 18446744073709551615) rfl ?_
      refine g_lxor rfl ?_
      refine g_land rfl ?_
      refine g_lstore_n (i := 3) (L1 := [some (.ref p), some (.long set), none, some (.long (x &&& ((grF W (W * H) x ((x &&& (-x)) &&& x)) ^^^ (Int64.ofNat 18446744073709551615)))), none, some (.int (Int32.ofNat k))]) rfl (Nat.le_of_ble_eq_true rfl) rfl ?_
      refine g_iinc (i := 5) (L1 := [some (.ref p), some (.long set), none, some (.long (x &&& ((grF W (W * H) x ((x &&& (-x)) &&& x)) ^^^ (Int64.ofNat 18446744073709551615)))), none, some (.int ((Int32.ofNat k) + Int32.ofInt 1))]) rfl rfl rfl ?_
      rw [ofN_add (by omega)]
      refine g_goto 10 rfl rfl ?_
      have key := ih (x &&& (grF W (W * H) x ((x &&& -x) &&& x) ^^^ lM1)) (k + 1) (by omega) (by have := pt_lt (W := W) (n := W * H) c_1; omega) (fun i hi z => hx i hi (by rw [bt_and, Bool.and_eq_true] at z; exact z.1))
      rw [show ptS W (W * H) (f + 1) x = _ from if_neg c_1, Nat.add_right_comm]
      exact key
theorem s_pieces {d : Nat} {h : sHp} {p : Nat} {c : CF} {W H : Nat} {set : Int64} (hd : 3 ≤ d) (F : FC h p c) (g : gdF c W H) (hx : inN set (W * H)) : sDo d 46 [.ref p, .long set] h (fun r h' => h' = h ∧ r = some (.int (Int32.ofNat (ptS W (W * H) 64 set)))) := by
  have key := s_pieces_go (d := d - 1) (set := set) (by omega) F g 64 set 0 rfl (cnt_le set) hx
  rw [Nat.add_zero] at key
  have ha : set &&& c.2.1 2 = set := bt_ext (fun i hi => by
    rw [bt_and, g.2.2.2.2.2.2.1, bt_stO _ _ (gdF_n g).1, Bool.and_true]
    by_cases z : bt set i = true
    · rw [z, decide_eq_true (hx i hi z)]; rfl
    · rw [nTF z]; rfl)
  refine sDo_of1 (nL := 6) (L := [some (.ref p), some (.long set), none, none, none, none]) (by omega) rfl rfl ?_
  refine g_lload_n (i := 1) rfl rfl ?_
  refine g_aload_n (i := 0) rfl rfl ?_
  refine g_getfield (v := .long (c.2.1 2)) rfl F.1 (by decide) rfl ?_
  refine g_land rfl ?_
  rw [ha]
  refine g_lstore_n (i := 3) (L1 := [some (.ref p), some (.long set), none, some (.long set), none, none]) rfl (Nat.le_of_ble_eq_true rfl) rfl ?_
  refine g_iconst (n := 0) rfl ?_
  refine g_istore (i := 5) (L1 := [some (.ref p), some (.long set), none, some (.long set), none, some (.int (Int32.ofInt 0))]) rfl (Nat.le_of_ble_eq_true rfl) rfl ?_
  exact key
theorem s_partsOf_go {d : Nat} {h : sHp} {J : Nat → Int32} {W H : Nat} {set : Int64} (hd : 3 ≤ d) (hr : h[60]? = some (mO J)) (g : gdM J W H) : ∀ (f : Nat) (x : Int64) (k : Nat), k + f = 64 → cnt x ≤ f → sGo none 224 d 5 [some (.ref 60), some (.long set), none, some (.int (Int32.ofNat k)), some (.long x), none] [] h (fun r h' => h' = h ∧ r = some (.int (Int32.ofNat (ptS W (W * H) f x + k)))) := by
  intro f
  induction f with
  | zero =>
    intro x k hk hc
    have hz := cnt_z (show cnt x = 0 by omega)
    refine g_lload (i := 4) rfl rfl ?_
    refine g_lconst (n := 0) rfl ?_
    show sGo none 224 _ 8 [some (.ref 60), some (.long set), none, some (.int (Int32.ofNat k)), some (.long x), none] [.long (Int64.ofNat 0), .long x] _ _
    refine g_lcmp rfl ?_
    refine g_if_eq 39 rfl rfl (fun _ => ?_) (fun hc => absurd hc (by exact fun z => z (lc_eq.mpr hz)))
    refine g_iload_n (i := 3) rfl rfl ?_
    refine g_ireturn (ty := .int) rfl rfl rfl ?_
    exact ⟨rfl, by rw [show ptS W (W * H) 0 x = 0 from rfl, Nat.zero_add]⟩
  | succ f ih =>
    intro x k hk hc
    refine g_lload (i := 4) rfl rfl ?_
    refine g_lconst (n := 0) rfl ?_
    show sGo none 224 _ 8 [some (.ref 60), some (.long set), none, some (.int (Int32.ofNat k)), some (.long x), none] [.long (Int64.ofNat 0), .long x] _ _
    refine g_lcmp rfl ?_
    refine g_if_eq 39 rfl rfl (fun c_1 => ?_) (fun c_1 => ?_)
    · skip
      rw [lc_eq] at c_1
      refine g_iload_n (i := 3) rfl rfl ?_
      refine g_ireturn (ty := .int) rfl rfl rfl ?_
      exact ⟨rfl, by rw [show ptS W (W * H) (f + 1) x = _ from if_pos c_1, Nat.zero_add]⟩
    · skip
      rw [lc_eq] at c_1
      refine g_lload (i := 4) rfl rfl ?_
      refine g_aload_n (i := 0) rfl rfl ?_
      refine g_lload (i := 4) rfl rfl ?_
      refine g_lload (i := 4) rfl rfl ?_
      refine g_lneg rfl ?_
      refine g_land rfl ?_
      refine g_lload (i := 4) rfl rfl ?_
      refine g_virt2 (Qc := fun r h' => h' = h ∧ r = some (.long (grF W (W * H) x ((x &&& (-x)) &&& x)))) rfl (by decide) rfl hr rfl (Nat.le_of_ble_eq_true rfl) (s_grown12 (by omega) hr g) (fun r h hq9 => ?_)
      obtain ⟨rfl, rfl⟩ := hq9
      refine g_ldc2_w (j := 18446744073709551615) rfl ?_
      refine g_lxor rfl ?_
      refine g_land rfl ?_
      refine g_lstore (i := 4) (L1 := [some (.ref 60), some (.long set), none, some (.int (Int32.ofNat k)), some (.long (x &&& ((grF W (W * H) x ((x &&& (-x)) &&& x)) ^^^ (Int64.ofNat 18446744073709551615)))), none]) rfl (Nat.le_of_ble_eq_true rfl) rfl ?_
      refine g_iinc (i := 3) (L1 := [some (.ref 60), some (.long set), none, some (.int ((Int32.ofNat k) + Int32.ofInt 1)), some (.long (x &&& ((grF W (W * H) x ((x &&& (-x)) &&& x)) ^^^ (Int64.ofNat 18446744073709551615)))), none]) rfl rfl rfl ?_
      rw [ofN_add (by omega)]
      refine g_goto 5 rfl rfl ?_
      have key := ih (x &&& (grF W (W * H) x ((x &&& -x) &&& x) ^^^ lM1)) (k + 1) (by omega) (by have := pt_lt (W := W) (n := W * H) c_1; omega)
      rw [show ptS W (W * H) (f + 1) x = _ from if_neg c_1, Nat.add_right_comm]
      exact key
theorem s_partsOf {d : Nat} {h : sHp} {J : Nat → Int32} {W H : Nat} {set : Int64} (hd : 4 ≤ d) (hr : h[60]? = some (mO J)) (g : gdM J W H) : sDo d 224 [.ref 60, .long set] h (fun r h' => h' = h ∧ r = some (.int (Int32.ofNat (ptS W (W * H) 64 set)))) := by
  have key := s_partsOf_go (d := d - 1) (set := set) (by omega) hr g 64 set 0 rfl (cnt_le set)
  rw [Nat.add_zero] at key
  refine sDo_of1 (nL := 6) (L := [some (.ref 60), some (.long set), none, none, none, none]) (by omega) rfl rfl ?_
  refine g_iconst (n := 0) rfl ?_
  refine g_istore_n (i := 3) (L1 := [some (.ref 60), some (.long set), none, some (.int (Int32.ofInt 0)), none, none]) rfl (Nat.le_of_ble_eq_true rfl) rfl ?_
  refine g_lload_n (i := 1) rfl rfl ?_
  refine g_lstore (i := 4) (L1 := [some (.ref 60), some (.long set), none, some (.int (Int32.ofInt 0)), some (.long set), none]) rfl (Nat.le_of_ble_eq_true rfl) rfl ?_
  exact key
