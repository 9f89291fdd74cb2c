section
/-! ===== squares beside, pieces ===== -/
def adj (W n q i : Nat) : Prop := (i + 1 = q ∧ 0 < q % W) ∨ (i = q + 1 ∧ q % W + 1 < W) ∨ (i + W = q) ∨ (i = q + W ∧ i < n)
def nbP (W n : Nat) (x : Int64) (k i : Nat) : Prop := ∃ q, q < k ∧ bt x q = true ∧ adj W n q i
theorem nbP_s {W n : Nat} {x : Int64} {k i : Nat} : nbP W n x (k + 1) i ↔ nbP W n x k i ∨ (bt x k = true ∧ adj W n k i) := by
  constructor
  · rintro ⟨q, h1, h2, h3⟩
    by_cases e : q = k
    · subst e; exact Or.inr ⟨h2, h3⟩
    · exact Or.inl ⟨q, by omega, h2, h3⟩
  · rintro (⟨q, h1, h2, h3⟩ | ⟨h2, h3⟩)
    · exact ⟨q, by omega, h2, h3⟩
    · exact ⟨k, by omega, h2, h3⟩
theorem nxt_in : ∀ W, W < 9 → ∀ H, H < 9 → ∀ q, q < 64 → q < W * H → q % W + 1 < W → q + 1 < W * H := by decide +kernel
/-- bits by a proposition -/
def bp (s : Int64) (P : Nat → Prop) : Prop := ∀ i, i < 64 → (bt s i = true ↔ P i)
theorem bp_or1 {s : Int64} {P : Nat → Prop} {k : Nat} (h : bp s P) (hk : k < 64) : bp (s ||| (Int64.ofNat 1 <<< ((Int32.ofNat k).toInt64 &&& 63))) (fun i => P i ∨ i = k) := fun i hi => by
  rw [bt_or, bt_one hk, Bool.or_eq_true, h i hi, decide_eq_true_eq]
theorem bp_0 {P : Nat → Prop} (h : ∀ i, ¬ P i) : bp (Int64.ofNat 0) P := fun i _ => by
  rw [bt_0]; exact ⟨fun z => absurd z (by decide), fun z => absurd z (h i)⟩
theorem bp_im {s : Int64} {P P' : Nat → Prop} (h : bp s P) (e : ∀ i, i < 64 → (P i ↔ P' i)) : bp s P' := fun i hi => (h i hi).trans (e i hi)
theorem bp_ext {s t : Int64} {P : Nat → Prop} (h : bp s P) (g : bp t P) : s = t := bt_ext (fun i hi => Bool.eq_iff_iff.mpr ((h i hi).trans (g i hi).symm))
noncomputable def stC (P : Nat → Prop) : Int64 := @stO (fun i => @decide (P i) (Classical.propDecidable _)) 64
theorem bp_stC (P : Nat → Prop) : bp (stC P) P := fun i hi => by
  unfold stC
  rw [bt_stO _ 64 (by omega), decide_eq_true hi, Bool.true_and]
  exact @decide_eq_true_iff _ (Classical.propDecidable _)
noncomputable def besS (W n : Nat) (x : Int64) : Int64 := stC (nbP W n x n)
theorem s_beside_go {d : Nat} {h : sHp} {J : Nat → Int32} {W H : Nat} {x : Int64} (hd : 1 ≤ d) (hr : h[60]? = some (mO J)) (g : gdM J W H) : ∀ (f k : Nat) (s : Int64), k + f = W * H → bp s (nbP W (W * H) x k) → sGo none 222 d 5 [some (.ref 60), some (.long x), none, some (.long s), none, some (.int (Int32.ofNat k))] [] h (fun r h' => h' = h ∧ r = some (.long (besS W (W * H) x))) := by
  have gd := g
  obtain ⟨gw, gh, w2, w8, h2, h8⟩ := gd
  have hn := gdM_n g
  have hw0 : (J 0).toInt = ((W : Nat) : Int) := by rw [gw]; exact ofN_toInt (by omega)
  have hw1 : (J 1).toInt = ((H : Nat) : Int) := by rw [gh]; exact ofN_toInt (by omega)
  have hwn : (J 0 * J 1).toInt = ((W * H : Nat) : Int) := n_mul hw0 hw1 (by omega)
  intro f
  induction f with
  | zero =>
    intro k s hk hs
    have ek := ofN_toInt (n := k) (by omega)
    refine g_iload (i := 5) rfl rfl ?_
    refine g_aload_n (i := 0) rfl rfl ?_
    refine g_getfield (v := .int (J 0)) rfl hr (by decide) rfl ?_
    refine g_aload_n (i := 0) rfl rfl ?_
    refine g_getfield (v := .int (J 1)) rfl hr (by decide) rfl ?_
    refine g_imul rfl ?_
    refine g_icmp_ge 134 rfl rfl (fun _ => ?_) (fun hc => absurd hc (by rw [i_le, hwn, ek]; omega))
    refine g_lload_n (i := 3) rfl rfl ?_
    refine g_lreturn rfl rfl ?_
    exact ⟨rfl, by rw [bp_ext (show bp s (nbP W (W * H) x (W * H)) from (show k = W * H by omega) ▸ hs) (bp_stC _)]; rfl⟩
  | succ f ih =>
    intro k s hk hs
    have ek := ofN_toInt (n := k) (by omega)
    have a4 := n_rem ek hw0 (by omega)
    have hml := Nat.mod_lt k (show W > 0 by omega)
    have hmk := Nat.mod_le k W
    have hni := nxt_in W (by omega) H (by omega) k (by omega) (by omega)
    refine g_iload (i := 5) rfl rfl ?_
    refine g_aload_n (i := 0) rfl rfl ?_
    refine g_getfield (v := .int (J 0)) rfl hr (by decide) rfl ?_
    refine g_aload_n (i := 0) rfl rfl ?_
    refine g_getfield (v := .int (J 1)) rfl hr (by decide) rfl ?_
    refine g_imul rfl ?_
    refine g_icmp_ge 134 rfl rfl (fun hc => absurd hc (by rw [i_le, hwn, ek]; omega)) (fun _ => ?_)
    refine g_aload_n (i := 0) rfl rfl ?_
    refine g_lload_n (i := 1) rfl rfl ?_
    refine g_iload (i := 5) rfl rfl ?_
    refine g_virt2 (Qc := fun r h' => h' = h ∧ r = some (.int (zI (bt x k = true)))) rfl (by decide) rfl hr rfl (Nat.le_of_ble_eq_true rfl) (s_hasE (k := k) (by omega) hr (by omega)) (fun r h hq9 => ?_)
    obtain ⟨rfl, rfl⟩ := hq9
    refine g_if_ne 32 rfl rfl (fun c_1 => ?_) (fun c_1 => ?_)
    · skip
      rw [zI_eq0] at c_1
      replace c_1 := Classical.not_not.mp c_1
      refine g_iload (i := 5) rfl rfl ?_
      refine g_aload_n (i := 0) rfl rfl ?_
      refine g_getfield (v := .int (J 0)) rfl hr (by decide) rfl ?_
      refine g_irem rfl (by intro z; rw [z] at hw0; have e : (0 : Int32).toInt = 0 := rfl; omega) ?_
      have k_3 : (0 : Int32).toInt = 0 := rfl
      refine g_if_le 51 rfl rfl (fun c_2 => ?_) (fun c_2 => ?_)
      · skip
        rw [i_le, a4, k_3] at c_2
        refine g_iload (i := 5) rfl rfl ?_
        refine g_aload_n (i := 0) rfl rfl ?_
        refine g_getfield (v := .int (J 0)) rfl hr (by decide) rfl ?_
        refine g_irem rfl (by intro z; rw [z] at hw0; have e : (0 : Int32).toInt = 0 := rfl; omega) ?_
        refine g_iconst (n := 1) rfl ?_
        have k_4 : (Int32.ofInt 1).toInt = 1 := rfl
        refine g_iadd rfl ?_
        have t_5 : (((Int32.ofNat k) - (Int32.ofNat k) / (J 0) * (J 0)) + (Int32.ofInt 1)).toInt = ((k % W + 1 : Nat) : Int) := by rw [i_add (by rw [a4, k_4]; omega) (by rw [a4, k_4]; omega), a4, k_4]; omega
        refine g_aload_n (i := 0) rfl rfl ?_
        refine g_getfield (v := .int (J 0)) rfl hr (by decide) rfl ?_
        refine g_icmp_ge 76 rfl rfl (fun c_6 => ?_) (fun c_6 => ?_)
        · skip
          rw [i_le, t_5, hw0] at c_6
          refine g_iload (i := 5) rfl rfl ?_
          refine g_aload_n (i := 0) rfl rfl ?_
          refine g_getfield (v := .int (J 0)) rfl hr (by decide) rfl ?_
          refine g_icmp_lt 97 rfl rfl (fun c_7 => ?_) (fun c_7 => ?_)
          · skip
            rw [i_lt, ek, hw0] at c_7
            refine g_iload (i := 5) rfl rfl ?_
            refine g_aload_n (i := 0) rfl rfl ?_
            refine g_getfield (v := .int (J 0)) rfl hr (by decide) rfl ?_
            refine g_iadd rfl ?_
            have t_8 : ((Int32.ofNat k) + (J 0)).toInt = ((k + W : Nat) : Int) := by rw [i_add (by rw [ek, hw0]; omega) (by rw [ek, hw0]; omega), ek, hw0]; omega
            refine g_aload_n (i := 0) rfl rfl ?_
            refine g_getfield (v := .int (J 0)) rfl hr (by decide) rfl ?_
            refine g_aload_n (i := 0) rfl rfl ?_
            refine g_getfield (v := .int (J 1)) rfl hr (by decide) rfl ?_
            refine g_imul rfl ?_
            refine g_icmp_ge 128 rfl rfl (fun c_9 => ?_) (fun c_9 => ?_)
            · skip
              rw [i_le, t_8, hwn] at c_9
              refine g_iinc (i := 5) (L1 := [some (.ref 60), some (.long x), none, some (.long s), none, some (.int ((Int32.ofNat k) + Int32.ofInt 1))]) rfl rfl rfl ?_
              rw [ofN_add (by omega)]
              refine g_goto 5 rfl rfl ?_
              refine ih (k + 1) _ (by omega) (bp_im hs (fun i hi => ?_))
              rw [nbP_s]
              have hb : (bt x k = true) = True := eq_true c_1
              rw [hb]
              unfold adj
              generalize nbP W (W * H) x k i = P
              constructor
              · intro z
                rcases z with z
                by_cases hP : P
                · exact Or.inl hP
                · refine Or.inr ⟨trivial, ?_⟩
                  simp only [hP, false_or] at z <;> omega
              · intro z
                by_cases hP : P
                · simp only [hP, true_or]
                · simp only [hP, false_or, true_and] at z ⊢
                  first | omega | (exact absurd z (by omega))
            · skip
              rw [i_le, t_8, hwn] at c_9
              refine g_lload_n (i := 3) rfl rfl ?_
              refine g_lconst (n := 1) rfl ?_
              show sGo none 222 _ 118 [some (.ref 60), some (.long x), none, some (.long s), none, some (.int (Int32.ofNat k))] [.long (Int64.ofNat 1), .long s] _ _
              refine g_iload (i := 5) rfl rfl ?_
              refine g_aload_n (i := 0) rfl rfl ?_
              refine g_getfield (v := .int (J 0)) rfl hr (by decide) rfl ?_
              refine g_iadd rfl ?_
              have t_10 : ((Int32.ofNat k) + (J 0)).toInt = ((k + W : Nat) : Int) := by rw [i_add (by rw [ek, hw0]; omega) (by rw [ek, hw0]; omega), ek, hw0]; omega
              have e_11 : Int32.ofNat k + J 0 = Int32.ofNat (k + W) := Int32.toInt_inj.mp (by rw [ofN_toInt (n := k + W) (by omega)]; omega)
              rw [e_11]
              have b_12 := bp_or1 (k := k + W) hs (by omega)
              refine g_lshl rfl ?_
              refine g_lor rfl ?_
              refine g_lstore_n (i := 3) (L1 := [some (.ref 60), some (.long x), none, some (.long (s ||| ((Int64.ofNat 1) <<< ((Int32.ofNat (k + W)).toInt64 &&& 63)))), none, some (.int (Int32.ofNat k))]) rfl (Nat.le_of_ble_eq_true rfl) rfl ?_
              refine g_iinc (i := 5) (L1 := [some (.ref 60), some (.long x), none, some (.long (s ||| ((Int64.ofNat 1) <<< ((Int32.ofNat (k + W)).toInt64 &&& 63)))), none, some (.int ((Int32.ofNat k) + Int32.ofInt 1))]) rfl rfl rfl ?_
              rw [ofN_add (by omega)]
              refine g_goto 5 rfl rfl ?_
              refine ih (k + 1) _ (by omega) (bp_im b_12 (fun i hi => ?_))
              rw [nbP_s]
              have hb : (bt x k = true) = True := eq_true c_1
              rw [hb]
              unfold adj
              generalize nbP W (W * H) x k i = P
              constructor
              · intro z
                rcases z with z
                by_cases hP : P
                · exact Or.inl hP
                · refine Or.inr ⟨trivial, ?_⟩
                  simp only [hP, false_or] at z <;> omega
              · intro z
                by_cases hP : P
                · simp only [hP, true_or]
                · simp only [hP, false_or, true_and] at z ⊢
                  first | omega | (exact absurd z (by omega))
          · skip
            rw [i_lt, ek, hw0] at c_7
            refine g_lload_n (i := 3) rfl rfl ?_
            refine g_lconst (n := 1) rfl ?_
            show sGo none 222 _ 87 [some (.ref 60), some (.long x), none, some (.long s), none, some (.int (Int32.ofNat k))] [.long (Int64.ofNat 1), .long s] _ _
            refine g_iload (i := 5) rfl rfl ?_
            refine g_aload_n (i := 0) rfl rfl ?_
            refine g_getfield (v := .int (J 0)) rfl hr (by decide) rfl ?_
            refine g_isub rfl ?_
            have t_13 : ((Int32.ofNat k) - (J 0)).toInt = ((k : Nat) : Int) - ((W : Nat) : Int) := by rw [i_sub (by rw [ek, hw0]; omega) (by rw [ek, hw0]; omega), ek, hw0]
            have e_14 : Int32.ofNat k - J 0 = Int32.ofNat (k - W) := Int32.toInt_inj.mp (by rw [ofN_toInt (n := k - W) (by omega)]; omega)
            rw [e_14]
            have b_15 := bp_or1 (k := k - W) hs (by omega)
            refine g_lshl rfl ?_
            refine g_lor rfl ?_
            refine g_lstore_n (i := 3) (L1 := [some (.ref 60), some (.long x), none, some (.long (s ||| ((Int64.ofNat 1) <<< ((Int32.ofNat (k - W)).toInt64 &&& 63)))), none, some (.int (Int32.ofNat k))]) rfl (Nat.le_of_ble_eq_true rfl) rfl ?_
            refine g_iload (i := 5) rfl rfl ?_
            refine g_aload_n (i := 0) rfl rfl ?_
            refine g_getfield (v := .int (J 0)) rfl hr (by decide) rfl ?_
            refine g_iadd rfl ?_
            have t_16 : ((Int32.ofNat k) + (J 0)).toInt = ((k + W : Nat) : Int) := by rw [i_add (by rw [ek, hw0]; omega) (by rw [ek, hw0]; omega), ek, hw0]; omega
            refine g_aload_n (i := 0) rfl rfl ?_
            refine g_getfield (v := .int (J 0)) rfl hr (by decide) rfl ?_
            refine g_aload_n (i := 0) rfl rfl ?_
            refine g_getfield (v := .int (J 1)) rfl hr (by decide) rfl ?_
            refine g_imul rfl ?_
            refine g_icmp_ge 128 rfl rfl (fun c_17 => ?_) (fun c_17 => ?_)
            · skip
              rw [i_le, t_16, hwn] at c_17
              refine g_iinc (i := 5) (L1 := [some (.ref 60), some (.long x), none, some (.long (s ||| ((Int64.ofNat 1) <<< ((Int32.ofNat (k - W)).toInt64 &&& 63)))), none, some (.int ((Int32.ofNat k) + Int32.ofInt 1))]) rfl rfl rfl ?_
              rw [ofN_add (by omega)]
              refine g_goto 5 rfl rfl ?_
              refine ih (k + 1) _ (by omega) (bp_im b_15 (fun i hi => ?_))
              rw [nbP_s]
              have hb : (bt x k = true) = True := eq_true c_1
              rw [hb]
              unfold adj
              generalize nbP W (W * H) x k i = P
              constructor
              · intro z
                rcases z with z
                by_cases hP : P
                · exact Or.inl hP
                · refine Or.inr ⟨trivial, ?_⟩
                  simp only [hP, false_or] at z <;> omega
              · intro z
                by_cases hP : P
                · simp only [hP, true_or]
                · simp only [hP, false_or, true_and] at z ⊢
                  first | omega | (exact absurd z (by omega))
            · skip
              rw [i_le, t_16, hwn] at c_17
              refine g_lload_n (i := 3) rfl rfl ?_
              refine g_lconst (n := 1) rfl ?_
              show sGo none 222 _ 118 [some (.ref 60), some (.long x), none, some (.long (s ||| ((Int64.ofNat 1) <<< ((Int32.ofNat (k - W)).toInt64 &&& 63)))), none, some (.int (Int32.ofNat k))] [.long (Int64.ofNat 1), .long (s ||| ((Int64.ofNat 1) <<< ((Int32.ofNat (k - W)).toInt64 &&& 63)))] _ _
              refine g_iload (i := 5) rfl rfl ?_
              refine g_aload_n (i := 0) rfl rfl ?_
              refine g_getfield (v := .int (J 0)) rfl hr (by decide) rfl ?_
              refine g_iadd rfl ?_
              have t_18 : ((Int32.ofNat k) + (J 0)).toInt = ((k + W : Nat) : Int) := by rw [i_add (by rw [ek, hw0]; omega) (by rw [ek, hw0]; omega), ek, hw0]; omega
              have e_19 : Int32.ofNat k + J 0 = Int32.ofNat (k + W) := Int32.toInt_inj.mp (by rw [ofN_toInt (n := k + W) (by omega)]; omega)
              rw [e_19]
              have b_20 := bp_or1 (k := k + W) b_15 (by omega)
              refine g_lshl rfl ?_
              refine g_lor rfl ?_
              refine g_lstore_n (i := 3) (L1 := [some (.ref 60), some (.long x), none, some (.long ((s ||| ((Int64.ofNat 1) <<< ((Int32.ofNat (k - W)).toInt64 &&& 63))) ||| ((Int64.ofNat 1) <<< ((Int32.ofNat (k + W)).toInt64 &&& 63)))), none, some (.int (Int32.ofNat k))]) rfl (Nat.le_of_ble_eq_true rfl) rfl ?_
              refine g_iinc (i := 5) (L1 := [some (.ref 60), some (.long x), none, some (.long ((s ||| ((Int64.ofNat 1) <<< ((Int32.ofNat (k - W)).toInt64 &&& 63))) ||| ((Int64.ofNat 1) <<< ((Int32.ofNat (k + W)).toInt64 &&& 63)))), none, some (.int ((Int32.ofNat k) + Int32.ofInt 1))]) rfl rfl rfl ?_
              rw [ofN_add (by omega)]
              refine g_goto 5 rfl rfl ?_
              refine ih (k + 1) _ (by omega) (bp_im b_20 (fun i hi => ?_))
              rw [nbP_s]
              have hb : (bt x k = true) = True := eq_true c_1
              rw [hb]
              unfold adj
              generalize nbP W (W * H) x k i = P
              constructor
              · intro z
                rcases z with z
                by_cases hP : P
                · exact Or.inl hP
                · refine Or.inr ⟨trivial, ?_⟩
                  simp only [hP, false_or] at z <;> omega
              · intro z
                by_cases hP : P
                · simp only [hP, true_or]
                · simp only [hP, false_or, true_and] at z ⊢
                  first | omega | (exact absurd z (by omega))
        · skip
          rw [i_le, t_5, hw0] at c_6
          refine g_lload_n (i := 3) rfl rfl ?_
          refine g_lconst (n := 1) rfl ?_
          show sGo none 222 _ 69 [some (.ref 60), some (.long x), none, some (.long s), none, some (.int (Int32.ofNat k))] [.long (Int64.ofNat 1), .long s] _ _
          refine g_iload (i := 5) rfl rfl ?_
          refine g_iconst (n := 1) rfl ?_
          refine g_iadd rfl ?_
          have t_21 : ((Int32.ofNat k) + (Int32.ofInt 1)).toInt = ((k + 1 : Nat) : Int) := by rw [i_add (by rw [ek, k_4]; omega) (by rw [ek, k_4]; omega), ek, k_4]; omega
          have e_22 : Int32.ofNat k + Int32.ofInt 1 = Int32.ofNat (k + 1) := Int32.toInt_inj.mp (by rw [ofN_toInt (n := k + 1) (by omega)]; omega)
          rw [e_22]
          have b_23 := bp_or1 (k := k + 1) hs (by omega)
          refine g_lshl rfl ?_
          refine g_lor rfl ?_
          refine g_lstore_n (i := 3) (L1 := [some (.ref 60), some (.long x), none, some (.long (s ||| ((Int64.ofNat 1) <<< ((Int32.ofNat (k + 1)).toInt64 &&& 63)))), none, some (.int (Int32.ofNat k))]) rfl (Nat.le_of_ble_eq_true rfl) rfl ?_
          refine g_iload (i := 5) rfl rfl ?_
          refine g_aload_n (i := 0) rfl rfl ?_
          refine g_getfield (v := .int (J 0)) rfl hr (by decide) rfl ?_
          refine g_icmp_lt 97 rfl rfl (fun c_24 => ?_) (fun c_24 => ?_)
          · skip
            rw [i_lt, ek, hw0] at c_24
            refine g_iload (i := 5) rfl rfl ?_
            refine g_aload_n (i := 0) rfl rfl ?_
            refine g_getfield (v := .int (J 0)) rfl hr (by decide) rfl ?_
            refine g_iadd rfl ?_
            have t_25 : ((Int32.ofNat k) + (J 0)).toInt = ((k + W : Nat) : Int) := by rw [i_add (by rw [ek, hw0]; omega) (by rw [ek, hw0]; omega), ek, hw0]; omega
            refine g_aload_n (i := 0) rfl rfl ?_
            refine g_getfield (v := .int (J 0)) rfl hr (by decide) rfl ?_
            refine g_aload_n (i := 0) rfl rfl ?_
            refine g_getfield (v := .int (J 1)) rfl hr (by decide) rfl ?_
            refine g_imul rfl ?_
            refine g_icmp_ge 128 rfl rfl (fun c_26 => ?_) (fun c_26 => ?_)
            · skip
              rw [i_le, t_25, hwn] at c_26
              refine g_iinc (i := 5) (L1 := [some (.ref 60), some (.long x), none, some (.long (s ||| ((Int64.ofNat 1) <<< ((Int32.ofNat (k + 1)).toInt64 &&& 63)))), none, some (.int ((Int32.ofNat k) + Int32.ofInt 1))]) rfl rfl rfl ?_
              rw [ofN_add (by omega)]
              refine g_goto 5 rfl rfl ?_
              refine ih (k + 1) _ (by omega) (bp_im b_23 (fun i hi => ?_))
              rw [nbP_s]
              have hb : (bt x k = true) = True := eq_true c_1
              rw [hb]
              unfold adj
              generalize nbP W (W * H) x k i = P
              constructor
              · intro z
                rcases z with z
                by_cases hP : P
                · exact Or.inl hP
                · refine Or.inr ⟨trivial, ?_⟩
                  simp only [hP, false_or] at z <;> omega
              · intro z
                by_cases hP : P
                · simp only [hP, true_or]
                · simp only [hP, false_or, true_and] at z ⊢
                  first | omega | (exact absurd z (by omega))
            · skip
              rw [i_le, t_25, hwn] at c_26
              refine g_lload_n (i := 3) rfl rfl ?_
              refine g_lconst (n := 1) rfl ?_
              show sGo none 222 _ 118 [some (.ref 60), some (.long x), none, some (.long (s ||| ((Int64.ofNat 1) <<< ((Int32.ofNat (k + 1)).toInt64 &&& 63)))), none, some (.int (Int32.ofNat k))] [.long (Int64.ofNat 1), .long (s ||| ((Int64.ofNat 1) <<< ((Int32.ofNat (k + 1)).toInt64 &&& 63)))] _ _
              refine g_iload (i := 5) rfl rfl ?_
              refine g_aload_n (i := 0) rfl rfl ?_
              refine g_getfield (v := .int (J 0)) rfl hr (by decide) rfl ?_
              refine g_iadd rfl ?_
              have t_27 : ((Int32.ofNat k) + (J 0)).toInt = ((k + W : Nat) : Int) := by rw [i_add (by rw [ek, hw0]; omega) (by rw [ek, hw0]; omega), ek, hw0]; omega
              have e_28 : Int32.ofNat k + J 0 = Int32.ofNat (k + W) := Int32.toInt_inj.mp (by rw [ofN_toInt (n := k + W) (by omega)]; omega)
              rw [e_28]
              have b_29 := bp_or1 (k := k + W) b_23 (by omega)
              refine g_lshl rfl ?_
              refine g_lor rfl ?_
              refine g_lstore_n (i := 3) (L1 := [some (.ref 60), some (.long x), none, some (.long ((s ||| ((Int64.ofNat 1) <<< ((Int32.ofNat (k + 1)).toInt64 &&& 63))) ||| ((Int64.ofNat 1) <<< ((Int32.ofNat (k + W)).toInt64 &&& 63)))), none, some (.int (Int32.ofNat k))]) rfl (Nat.le_of_ble_eq_true rfl) rfl ?_
              refine g_iinc (i := 5) (L1 := [some (.ref 60), some (.long x), none, some (.long ((s ||| ((Int64.ofNat 1) <<< ((Int32.ofNat (k + 1)).toInt64 &&& 63))) ||| ((Int64.ofNat 1) <<< ((Int32.ofNat (k + W)).toInt64 &&& 63)))), none, some (.int ((Int32.ofNat k) + Int32.ofInt 1))]) rfl rfl rfl ?_
              rw [ofN_add (by omega)]
              refine g_goto 5 rfl rfl ?_
              refine ih (k + 1) _ (by omega) (bp_im b_29 (fun i hi => ?_))
              rw [nbP_s]
              have hb : (bt x k = true) = True := eq_true c_1
              rw [hb]
              unfold adj
              generalize nbP W (W * H) x k i = P
              constructor
              · intro z
                rcases z with z
                by_cases hP : P
                · exact Or.inl hP
                · refine Or.inr ⟨trivial, ?_⟩
                  simp only [hP, false_or] at z <;> omega
              · intro z
                by_cases hP : P
                · simp only [hP, true_or]
                · simp only [hP, false_or, true_and] at z ⊢
                  first | omega | (exact absurd z (by omega))
          · skip
            rw [i_lt, ek, hw0] at c_24
            refine g_lload_n (i := 3) rfl rfl ?_
            refine g_lconst (n := 1) rfl ?_
            show sGo none 222 _ 87 [some (.ref 60), some (.long x), none, some (.long (s ||| ((Int64.ofNat 1) <<< ((Int32.ofNat (k + 1)).toInt64 &&& 63)))), none, some (.int (Int32.ofNat k))] [.long (Int64.ofNat 1), .long (s ||| ((Int64.ofNat 1) <<< ((Int32.ofNat (k + 1)).toInt64 &&& 63)))] _ _
            refine g_iload (i := 5) rfl rfl ?_
            refine g_aload_n (i := 0) rfl rfl ?_
            refine g_getfield (v := .int (J 0)) rfl hr (by decide) rfl ?_
            refine g_isub rfl ?_
            have t_30 : ((Int32.ofNat k) - (J 0)).toInt = ((k : Nat) : Int) - ((W : Nat) : Int) := by rw [i_sub (by rw [ek, hw0]; omega) (by rw [ek, hw0]; omega), ek, hw0]
            have e_31 : Int32.ofNat k - J 0 = Int32.ofNat (k - W) := Int32.toInt_inj.mp (by rw [ofN_toInt (n := k - W) (by omega)]; omega)
            rw [e_31]
            have b_32 := bp_or1 (k := k - W) b_23 (by omega)
            refine g_lshl rfl ?_
            refine g_lor rfl ?_
            refine g_lstore_n (i := 3) (L1 := [some (.ref 60), some (.long x), none, some (.long ((s ||| ((Int64.ofNat 1) <<< ((Int32.ofNat (k + 1)).toInt64 &&& 63))) ||| ((Int64.ofNat 1) <<< ((Int32.ofNat (k - W)).toInt64 &&& 63)))), none, some (.int (Int32.ofNat k))]) rfl (Nat.le_of_ble_eq_true rfl) rfl ?_
            refine g_iload (i := 5) rfl rfl ?_
            refine g_aload_n (i := 0) rfl rfl ?_
            refine g_getfield (v := .int (J 0)) rfl hr (by decide) rfl ?_
            refine g_iadd rfl ?_
            have t_33 : ((Int32.ofNat k) + (J 0)).toInt = ((k + W : Nat) : Int) := by rw [i_add (by rw [ek, hw0]; omega) (by rw [ek, hw0]; omega), ek, hw0]; omega
            refine g_aload_n (i := 0) rfl rfl ?_
            refine g_getfield (v := .int (J 0)) rfl hr (by decide) rfl ?_
            refine g_aload_n (i := 0) rfl rfl ?_
            refine g_getfield (v := .int (J 1)) rfl hr (by decide) rfl ?_
            refine g_imul rfl ?_
            refine g_icmp_ge 128 rfl rfl (fun c_34 => ?_) (fun c_34 => ?_)
            · skip
              rw [i_le, t_33, hwn] at c_34
              refine g_iinc (i := 5) (L1 := [some (.ref 60), some (.long x), none, some (.long ((s ||| ((Int64.ofNat 1) <<< ((Int32.ofNat (k + 1)).toInt64 &&& 63))) ||| ((Int64.ofNat 1) <<< ((Int32.ofNat (k - W)).toInt64 &&& 63)))), none, some (.int ((Int32.ofNat k) + Int32.ofInt 1))]) rfl rfl rfl ?_
              rw [ofN_add (by omega)]
              refine g_goto 5 rfl rfl ?_
              refine ih (k + 1) _ (by omega) (bp_im b_32 (fun i hi => ?_))
              rw [nbP_s]
              have hb : (bt x k = true) = True := eq_true c_1
              rw [hb]
              unfold adj
              generalize nbP W (W * H) x k i = P
              constructor
              · intro z
                rcases z with z
                by_cases hP : P
                · exact Or.inl hP
                · refine Or.inr ⟨trivial, ?_⟩
                  simp only [hP, false_or] at z <;> omega
              · intro z
                by_cases hP : P
                · simp only [hP, true_or]
                · simp only [hP, false_or, true_and] at z ⊢
                  first | omega | (exact absurd z (by omega))
            · skip
              rw [i_le, t_33, hwn] at c_34
              refine g_lload_n (i := 3) rfl rfl ?_
              refine g_lconst (n := 1) rfl ?_
              show sGo none 222 _ 118 [some (.ref 60), some (.long x), none, some (.long ((s ||| ((Int64.ofNat 1) <<< ((Int32.ofNat (k + 1)).toInt64 &&& 63))) ||| ((Int64.ofNat 1) <<< ((Int32.ofNat (k - W)).toInt64 &&& 63)))), none, some (.int (Int32.ofNat k))] [.long (Int64.ofNat 1), .long ((s ||| ((Int64.ofNat 1) <<< ((Int32.ofNat (k + 1)).toInt64 &&& 63))) ||| ((Int64.ofNat 1) <<< ((Int32.ofNat (k - W)).toInt64 &&& 63)))] _ _
              refine g_iload (i := 5) rfl rfl ?_
              refine g_aload_n (i := 0) rfl rfl ?_
              refine g_getfield (v := .int (J 0)) rfl hr (by decide) rfl ?_
              refine g_iadd rfl ?_
              have t_35 : ((Int32.ofNat k) + (J 0)).toInt = ((k + W : Nat) : Int) := by rw [i_add (by rw [ek, hw0]; omega) (by rw [ek, hw0]; omega), ek, hw0]; omega
              have e_36 : Int32.ofNat k + J 0 = Int32.ofNat (k + W) := Int32.toInt_inj.mp (by rw [ofN_toInt (n := k + W) (by omega)]; omega)
              rw [e_36]
              have b_37 := bp_or1 (k := k + W) b_32 (by omega)
              refine g_lshl rfl ?_
              refine g_lor rfl ?_
              refine g_lstore_n (i := 3) (L1 := [some (.ref 60), some (.long x), none, some (.long (((s ||| ((Int64.ofNat 1) <<< ((Int32.ofNat (k + 1)).toInt64 &&& 63))) ||| ((Int64.ofNat 1) <<< ((Int32.ofNat (k - W)).toInt64 &&& 63))) ||| ((Int64.ofNat 1) <<< ((Int32.ofNat (k + W)).toInt64 &&& 63)))), none, some (.int (Int32.ofNat k))]) rfl (Nat.le_of_ble_eq_true rfl) rfl ?_
              refine g_iinc (i := 5) (L1 := [some (.ref 60), some (.long x), none, some (.long (((s ||| ((Int64.ofNat 1) <<< ((Int32.ofNat (k + 1)).toInt64 &&& 63))) ||| ((Int64.ofNat 1) <<< ((Int32.ofNat (k - W)).toInt64 &&& 63))) ||| ((Int64.ofNat 1) <<< ((Int32.ofNat (k + W)).toInt64 &&& 63)))), none, some (.int ((Int32.ofNat k) + Int32.ofInt 1))]) rfl rfl rfl ?_
              rw [ofN_add (by omega)]
              refine g_goto 5 rfl rfl ?_
              refine ih (k + 1) _ (by omega) (bp_im b_37 (fun i hi => ?_))
              rw [nbP_s]
              have hb : (bt x k = true) = True := eq_true c_1
              rw [hb]
              unfold adj
              generalize nbP W (W * H) x k i = P
              constructor
              · intro z
                rcases z with z
                by_cases hP : P
                · exact Or.inl hP
                · refine Or.inr ⟨trivial, ?_⟩
                  simp only [hP, false_or] at z <;> omega
              · intro z
                by_cases hP : P
                · simp only [hP, true_or]
                · simp only [hP, false_or, true_and] at z ⊢
                  first | omega | (exact absurd z (by omega))
      · skip
        rw [i_le, a4, k_3] at c_2
        refine g_lload_n (i := 3) rfl rfl ?_
        refine g_lconst (n := 1) rfl ?_
        show sGo none 222 _ 44 [some (.ref 60), some (.long x), none, some (.long s), none, some (.int (Int32.ofNat k))] [.long (Int64.ofNat 1), .long s] _ _
        refine g_iload (i := 5) rfl rfl ?_
        refine g_iconst (n := 1) rfl ?_
        have k_38 : (Int32.ofInt 1).toInt = 1 := rfl
        refine g_isub rfl ?_
        have t_39 : ((Int32.ofNat k) - (Int32.ofInt 1)).toInt = ((k : Nat) : Int) - 1 := by rw [i_sub (by rw [ek, k_38]; omega) (by rw [ek, k_38]; omega), ek, k_38]
        have e_40 : Int32.ofNat k - Int32.ofInt 1 = Int32.ofNat (k - 1) := Int32.toInt_inj.mp (by rw [ofN_toInt (n := k - 1) (by omega)]; omega)
        rw [e_40]
        have b_41 := bp_or1 (k := k - 1) hs (by omega)
        refine g_lshl rfl ?_
        refine g_lor rfl ?_
        refine g_lstore_n (i := 3) (L1 := [some (.ref 60), some (.long x), none, some (.long (s ||| ((Int64.ofNat 1) <<< ((Int32.ofNat (k - 1)).toInt64 &&& 63)))), none, some (.int (Int32.ofNat k))]) rfl (Nat.le_of_ble_eq_true rfl) rfl ?_
        refine g_iload (i := 5) rfl rfl ?_
        refine g_aload_n (i := 0) rfl rfl ?_
        refine g_getfield (v := .int (J 0)) rfl hr (by decide) rfl ?_
        refine g_irem rfl (by intro z; rw [z] at hw0; have e : (0 : Int32).toInt = 0 := rfl; omega) ?_
        refine g_iconst (n := 1) rfl ?_
        refine g_iadd rfl ?_
        have t_42 : (((Int32.ofNat k) - (Int32.ofNat k) / (J 0) * (J 0)) + (Int32.ofInt 1)).toInt = ((k % W + 1 : Nat) : Int) := by rw [i_add (by rw [a4, k_38]; omega) (by rw [a4, k_38]; omega), a4, k_38]; omega
        refine g_aload_n (i := 0) rfl rfl ?_
        refine g_getfield (v := .int (J 0)) rfl hr (by decide) rfl ?_
        refine g_icmp_ge 76 rfl rfl (fun c_43 => ?_) (fun c_43 => ?_)
        · skip
          rw [i_le, t_42, hw0] at c_43
          refine g_iload (i := 5) rfl rfl ?_
          refine g_aload_n (i := 0) rfl rfl ?_
          refine g_getfield (v := .int (J 0)) rfl hr (by decide) rfl ?_
          refine g_icmp_lt 97 rfl rfl (fun c_44 => ?_) (fun c_44 => ?_)
          · skip
            rw [i_lt, ek, hw0] at c_44
            refine g_iload (i := 5) rfl rfl ?_
            refine g_aload_n (i := 0) rfl rfl ?_
            refine g_getfield (v := .int (J 0)) rfl hr (by decide) rfl ?_
            refine g_iadd rfl ?_
            have t_45 : ((Int32.ofNat k) + (J 0)).toInt = ((k + W : Nat) : Int) := by rw [i_add (by rw [ek, hw0]; omega) (by rw [ek, hw0]; omega), ek, hw0]; omega
            refine g_aload_n (i := 0) rfl rfl ?_
            refine g_getfield (v := .int (J 0)) rfl hr (by decide) rfl ?_
            refine g_aload_n (i := 0) rfl rfl ?_
            refine g_getfield (v := .int (J 1)) rfl hr (by decide) rfl ?_
            refine g_imul rfl ?_
            refine g_icmp_ge 128 rfl rfl (fun c_46 => ?_) (fun c_46 => ?_)
            · skip
              rw [i_le, t_45, hwn] at c_46
              refine g_iinc (i := 5) (L1 := [some (.ref 60), some (.long x), none, some (.long (s ||| ((Int64.ofNat 1) <<< ((Int32.ofNat (k - 1)).toInt64 &&& 63)))), none, some (.int ((Int32.ofNat k) + Int32.ofInt 1))]) rfl rfl rfl ?_
              rw [ofN_add (by omega)]
              refine g_goto 5 rfl rfl ?_
              refine ih (k + 1) _ (by omega) (bp_im b_41 (fun i hi => ?_))
              rw [nbP_s]
              have hb : (bt x k = true) = True := eq_true c_1
              rw [hb]
              unfold adj
              generalize nbP W (W * H) x k i = P
              constructor
              · intro z
                rcases z with z
                by_cases hP : P
                · exact Or.inl hP
                · refine Or.inr ⟨trivial, ?_⟩
                  simp only [hP, false_or] at z <;> omega
              · intro z
                by_cases hP : P
                · simp only [hP, true_or]
                · simp only [hP, false_or, true_and] at z ⊢
                  first | omega | (exact absurd z (by omega))
            · skip
              rw [i_le, t_45, hwn] at c_46
              refine g_lload_n (i := 3) rfl rfl ?_
              refine g_lconst (n := 1) rfl ?_
              show sGo none 222 _ 118 [some (.ref 60), some (.long x), none, some (.long (s ||| ((Int64.ofNat 1) <<< ((Int32.ofNat (k - 1)).toInt64 &&& 63)))), none, some (.int (Int32.ofNat k))] [.long (Int64.ofNat 1), .long (s ||| ((Int64.ofNat 1) <<< ((Int32.ofNat (k - 1)).toInt64 &&& 63)))] _ _
              refine g_iload (i := 5) rfl rfl ?_
              refine g_aload_n (i := 0) rfl rfl ?_
              refine g_getfield (v := .int (J 0)) rfl hr (by decide) rfl ?_
              refine g_iadd rfl ?_
              have t_47 : ((Int32.ofNat k) + (J 0)).toInt = ((k + W : Nat) : Int) := by rw [i_add (by rw [ek, hw0]; omega) (by rw [ek, hw0]; omega), ek, hw0]; omega
              have e_48 : Int32.ofNat k + J 0 = Int32.ofNat (k + W) := Int32.toInt_inj.mp (by rw [ofN_toInt (n := k + W) (by omega)]; omega)
              rw [e_48]
              have b_49 := bp_or1 (k := k + W) b_41 (by omega)
              refine g_lshl rfl ?_
              refine g_lor rfl ?_
              refine g_lstore_n (i := 3) (L1 := [some (.ref 60), some (.long x), none, some (.long ((s ||| ((Int64.ofNat 1) <<< ((Int32.ofNat (k - 1)).toInt64 &&& 63))) ||| ((Int64.ofNat 1) <<< ((Int32.ofNat (k + W)).toInt64 &&& 63)))), none, some (.int (Int32.ofNat k))]) rfl (Nat.le_of_ble_eq_true rfl) rfl ?_
              refine g_iinc (i := 5) (L1 := [some (.ref 60), some (.long x), none, some (.long ((s ||| ((Int64.ofNat 1) <<< ((Int32.ofNat (k - 1)).toInt64 &&& 63))) ||| ((Int64.ofNat 1) <<< ((Int32.ofNat (k + W)).toInt64 &&& 63)))), none, some (.int ((Int32.ofNat k) + Int32.ofInt 1))]) rfl rfl rfl ?_
              rw [ofN_add (by omega)]
              refine g_goto 5 rfl rfl ?_
              refine ih (k + 1) _ (by omega) (bp_im b_49 (fun i hi => ?_))
              rw [nbP_s]
              have hb : (bt x k = true) = True := eq_true c_1
              rw [hb]
              unfold adj
              generalize nbP W (W * H) x k i = P
              constructor
              · intro z
                rcases z with z
                by_cases hP : P
                · exact Or.inl hP
                · refine Or.inr ⟨trivial, ?_⟩
                  simp only [hP, false_or] at z <;> omega
              · intro z
                by_cases hP : P
                · simp only [hP, true_or]
                · simp only [hP, false_or, true_and] at z ⊢
                  first | omega | (exact absurd z (by omega))
          · skip
            rw [i_lt, ek, hw0] at c_44
            refine g_lload_n (i := 3) rfl rfl ?_
            refine g_lconst (n := 1) rfl ?_
            show sGo none 222 _ 87 [some (.ref 60), some (.long x), none, some (.long (s ||| ((Int64.ofNat 1) <<< ((Int32.ofNat (k - 1)).toInt64 &&& 63)))), none, some (.int (Int32.ofNat k))] [.long (Int64.ofNat 1), .long (s ||| ((Int64.ofNat 1) <<< ((Int32.ofNat (k - 1)).toInt64 &&& 63)))] _ _
            refine g_iload (i := 5) rfl rfl ?_
            refine g_aload_n (i := 0) rfl rfl ?_
            refine g_getfield (v := .int (J 0)) rfl hr (by decide) rfl ?_
            refine g_isub rfl ?_
            have t_50 : ((Int32.ofNat k) - (J 0)).toInt = ((k : Nat) : Int) - ((W : Nat) : Int) := by rw [i_sub (by rw [ek, hw0]; omega) (by rw [ek, hw0]; omega), ek, hw0]
            have e_51 : Int32.ofNat k - J 0 = Int32.ofNat (k - W) := Int32.toInt_inj.mp (by rw [ofN_toInt (n := k - W) (by omega)]; omega)
            rw [e_51]
            have b_52 := bp_or1 (k := k - W) b_41 (by omega)
            refine g_lshl rfl ?_
            refine g_lor rfl ?_
            refine g_lstore_n (i := 3) (L1 := [some (.ref 60), some (.long x), none, some (.long ((s ||| ((Int64.ofNat 1) <<< ((Int32.ofNat (k - 1)).toInt64 &&& 63))) ||| ((Int64.ofNat 1) <<< ((Int32.ofNat (k - W)).toInt64 &&& 63)))), none, some (.int (Int32.ofNat k))]) rfl (Nat.le_of_ble_eq_true rfl) rfl ?_
            refine g_iload (i := 5) rfl rfl ?_
            refine g_aload_n (i := 0) rfl rfl ?_
            refine g_getfield (v := .int (J 0)) rfl hr (by decide) rfl ?_
            refine g_iadd rfl ?_
            have t_53 : ((Int32.ofNat k) + (J 0)).toInt = ((k + W : Nat) : Int) := by rw [i_add (by rw [ek, hw0]; omega) (by rw [ek, hw0]; omega), ek, hw0]; omega
            refine g_aload_n (i := 0) rfl rfl ?_
            refine g_getfield (v := .int (J 0)) rfl hr (by decide) rfl ?_
            refine g_aload_n (i := 0) rfl rfl ?_
            refine g_getfield (v := .int (J 1)) rfl hr (by decide) rfl ?_
            refine g_imul rfl ?_
            refine g_icmp_ge 128 rfl rfl (fun c_54 => ?_) (fun c_54 => ?_)
            · skip
              rw [i_le, t_53, hwn] at c_54
              refine g_iinc (i := 5) (L1 := [some (.ref 60), some (.long x), none, some (.long ((s ||| ((Int64.ofNat 1) <<< ((Int32.ofNat (k - 1)).toInt64 &&& 63))) ||| ((Int64.ofNat 1) <<< ((Int32.ofNat (k - W)).toInt64 &&& 63)))), none, some (.int ((Int32.ofNat k) + Int32.ofInt 1))]) rfl rfl rfl ?_
              rw [ofN_add (by omega)]
              refine g_goto 5 rfl rfl ?_
              refine ih (k + 1) _ (by omega) (bp_im b_52 (fun i hi => ?_))
              rw [nbP_s]
              have hb : (bt x k = true) = True := eq_true c_1
              rw [hb]
              unfold adj
              generalize nbP W (W * H) x k i = P
              constructor
              · intro z
                rcases z with z
                by_cases hP : P
                · exact Or.inl hP
                · refine Or.inr ⟨trivial, ?_⟩
                  simp only [hP, false_or] at z <;> omega
              · intro z
                by_cases hP : P
                · simp only [hP, true_or]
                · simp only [hP, false_or, true_and] at z ⊢
                  first | omega | (exact absurd z (by omega))
            · skip
              rw [i_le, t_53, hwn] at c_54
              refine g_lload_n (i := 3) rfl rfl ?_
              refine g_lconst (n := 1) rfl ?_
              show sGo none 222 _ 118 [some (.ref 60), some (.long x), none, some (.long ((s ||| ((Int64.ofNat 1) <<< ((Int32.ofNat (k - 1)).toInt64 &&& 63))) ||| ((Int64.ofNat 1) <<< ((Int32.ofNat (k - W)).toInt64 &&& 63)))), none, some (.int (Int32.ofNat k))] [.long (Int64.ofNat 1), .long ((s ||| ((Int64.ofNat 1) <<< ((Int32.ofNat (k - 1)).toInt64 &&& 63))) ||| ((Int64.ofNat 1) <<< ((Int32.ofNat (k - W)).toInt64 &&& 63)))] _ _
              refine g_iload (i := 5) rfl rfl ?_
              refine g_aload_n (i := 0) rfl rfl ?_
              refine g_getfield (v := .int (J 0)) rfl hr (by decide) rfl ?_
              refine g_iadd rfl ?_
              have t_55 : ((Int32.ofNat k) + (J 0)).toInt = ((k + W : Nat) : Int) := by rw [i_add (by rw [ek, hw0]; omega) (by rw [ek, hw0]; omega), ek, hw0]; omega
              have e_56 : Int32.ofNat k + J 0 = Int32.ofNat (k + W) := Int32.toInt_inj.mp (by rw [ofN_toInt (n := k + W) (by omega)]; omega)
              rw [e_56]
              have b_57 := bp_or1 (k := k + W) b_52 (by omega)
              refine g_lshl rfl ?_
              refine g_lor rfl ?_
              refine g_lstore_n (i := 3) (L1 := [some (.ref 60), some (.long x), none, some (.long (((s ||| ((Int64.ofNat 1) <<< ((Int32.ofNat (k - 1)).toInt64 &&& 63))) ||| ((Int64.ofNat 1) <<< ((Int32.ofNat (k - W)).toInt64 &&& 63))) ||| ((Int64.ofNat 1) <<< ((Int32.ofNat (k + W)).toInt64 &&& 63)))), none, some (.int (Int32.ofNat k))]) rfl (Nat.le_of_ble_eq_true rfl) rfl ?_
              refine g_iinc (i := 5) (L1 := [some (.ref 60), some (.long x), none, some (.long (((s ||| ((Int64.ofNat 1) <<< ((Int32.ofNat (k - 1)).toInt64 &&& 63))) ||| ((Int64.ofNat 1) <<< ((Int32.ofNat (k - W)).toInt64 &&& 63))) ||| ((Int64.ofNat 1) <<< ((Int32.ofNat (k + W)).toInt64 &&& 63)))), none, some (.int ((Int32.ofNat k) + Int32.ofInt 1))]) rfl rfl rfl ?_
              rw [ofN_add (by omega)]
              refine g_goto 5 rfl rfl ?_
              refine ih (k + 1) _ (by omega) (bp_im b_57 (fun i hi => ?_))
              rw [nbP_s]
              have hb : (bt x k = true) = True := eq_true c_1
              rw [hb]
              unfold adj
              generalize nbP W (W * H) x k i = P
              constructor
              · intro z
                rcases z with z
                by_cases hP : P
                · exact Or.inl hP
                · refine Or.inr ⟨trivial, ?_⟩
                  simp only [hP, false_or] at z <;> omega
              · intro z
                by_cases hP : P
                · simp only [hP, true_or]
                · simp only [hP, false_or, true_and] at z ⊢
                  first | omega | (exact absurd z (by omega))
        · skip
          rw [i_le, t_42, hw0] at c_43
          refine g_lload_n (i := 3) rfl rfl ?_
          refine g_lconst (n := 1) rfl ?_
          show sGo none 222 _ 69 [some (.ref 60), some (.long x), none, some (.long (s ||| ((Int64.ofNat 1) <<< ((Int32.ofNat (k - 1)).toInt64 &&& 63)))), none, some (.int (Int32.ofNat k))] [.long (Int64.ofNat 1), .long (s ||| ((Int64.ofNat 1) <<< ((Int32.ofNat (k - 1)).toInt64 &&& 63)))] _ _
          refine g_iload (i := 5) rfl rfl ?_
          refine g_iconst (n := 1) rfl ?_
          refine g_iadd rfl ?_
          have t_58 : ((Int32.ofNat k) + (Int32.ofInt 1)).toInt = ((k + 1 : Nat) : Int) := by rw [i_add (by rw [ek, k_38]; omega) (by rw [ek, k_38]; omega), ek, k_38]; omega
          have e_59 : Int32.ofNat k + Int32.ofInt 1 = Int32.ofNat (k + 1) := Int32.toInt_inj.mp (by rw [ofN_toInt (n := k + 1) (by omega)]; omega)
          rw [e_59]
          have b_60 := bp_or1 (k := k + 1) b_41 (by omega)
          refine g_lshl rfl ?_
          refine g_lor rfl ?_
          refine g_lstore_n (i := 3) (L1 := [some (.ref 60), some (.long x), none, some (.long ((s ||| ((Int64.ofNat 1) <<< ((Int32.ofNat (k - 1)).toInt64 &&& 63))) ||| ((Int64.ofNat 1) <<< ((Int32.ofNat (k + 1)).toInt64 &&& 63)))), none, some (.int (Int32.ofNat k))]) rfl (Nat.le_of_ble_eq_true rfl) rfl ?_
          refine g_iload (i := 5) rfl rfl ?_
          refine g_aload_n (i := 0) rfl rfl ?_
          refine g_getfield (v := .int (J 0)) rfl hr (by decide) rfl ?_
          refine g_icmp_lt 97 rfl rfl (fun c_61 => ?_) (fun c_61 => ?_)
          · skip
            rw [i_lt, ek, hw0] at c_61
            refine g_iload (i := 5) rfl rfl ?_
            refine g_aload_n (i := 0) rfl rfl ?_
            refine g_getfield (v := .int (J 0)) rfl hr (by decide) rfl ?_
            refine g_iadd rfl ?_
            have t_62 : ((Int32.ofNat k) + (J 0)).toInt = ((k + W : Nat) : Int) := by rw [i_add (by rw [ek, hw0]; omega) (by rw [ek, hw0]; omega), ek, hw0]; omega
            refine g_aload_n (i := 0) rfl rfl ?_
            refine g_getfield (v := .int (J 0)) rfl hr (by decide) rfl ?_
            refine g_aload_n (i := 0) rfl rfl ?_
            refine g_getfield (v := .int (J 1)) rfl hr (by decide) rfl ?_
            refine g_imul rfl ?_
            refine g_icmp_ge 128 rfl rfl (fun c_63 => ?_) (fun c_63 => ?_)
            · skip
              rw [i_le, t_62, hwn] at c_63
              refine g_iinc (i := 5) (L1 := [some (.ref 60), some (.long x), none, some (.long ((s ||| ((Int64.ofNat 1) <<< ((Int32.ofNat (k - 1)).toInt64 &&& 63))) ||| ((Int64.ofNat 1) <<< ((Int32.ofNat (k + 1)).toInt64 &&& 63)))), none, some (.int ((Int32.ofNat k) + Int32.ofInt 1))]) rfl rfl rfl ?_
              rw [ofN_add (by omega)]
              refine g_goto 5 rfl rfl ?_
              refine ih (k + 1) _ (by omega) (bp_im b_60 (fun i hi => ?_))
              rw [nbP_s]
              have hb : (bt x k = true) = True := eq_true c_1
              rw [hb]
              unfold adj
              generalize nbP W (W * H) x k i = P
              constructor
              · intro z
                rcases z with z
                by_cases hP : P
                · exact Or.inl hP
                · refine Or.inr ⟨trivial, ?_⟩
                  simp only [hP, false_or] at z <;> omega
              · intro z
                by_cases hP : P
                · simp only [hP, true_or]
                · simp only [hP, false_or, true_and] at z ⊢
                  first | omega | (exact absurd z (by omega))
            · skip
              rw [i_le, t_62, hwn] at c_63
              refine g_lload_n (i := 3) rfl rfl ?_
              refine g_lconst (n := 1) rfl ?_
              show sGo none 222 _ 118 [some (.ref 60), some (.long x), none, some (.long ((s ||| ((Int64.ofNat 1) <<< ((Int32.ofNat (k - 1)).toInt64 &&& 63))) ||| ((Int64.ofNat 1) <<< ((Int32.ofNat (k + 1)).toInt64 &&& 63)))), none, some (.int (Int32.ofNat k))] [.long (Int64.ofNat 1), .long ((s ||| ((Int64.ofNat 1) <<< ((Int32.ofNat (k - 1)).toInt64 &&& 63))) ||| ((Int64.ofNat 1) <<< ((Int32.ofNat (k + 1)).toInt64 &&& 63)))] _ _
              refine g_iload (i := 5) rfl rfl ?_
              refine g_aload_n (i := 0) rfl rfl ?_
              refine g_getfield (v := .int (J 0)) rfl hr (by decide) rfl ?_
              refine g_iadd rfl ?_
              have t_64 : ((Int32.ofNat k) + (J 0)).toInt = ((k + W : Nat) : Int) := by rw [i_add (by rw [ek, hw0]; omega) (by rw [ek, hw0]; omega), ek, hw0]; omega
              have e_65 : Int32.ofNat k + J 0 = Int32.ofNat (k + W) := Int32.toInt_inj.mp (by rw [ofN_toInt (n := k + W) (by omega)]; omega)
              rw [e_65]
              have b_66 := bp_or1 (k := k + W) b_60 (by omega)
              refine g_lshl rfl ?_
              refine g_lor rfl ?_
              refine g_lstore_n (i := 3) (L1 := [some (.ref 60), some (.long x), none, some (.long (((s ||| ((Int64.ofNat 1) <<< ((Int32.ofNat (k - 1)).toInt64 &&& 63))) ||| ((Int64.ofNat 1) <<< ((Int32.ofNat (k + 1)).toInt64 &&& 63))) ||| ((Int64.ofNat 1) <<< ((Int32.ofNat (k + W)).toInt64 &&& 63)))), none, some (.int (Int32.ofNat k))]) rfl (Nat.le_of_ble_eq_true rfl) rfl ?_
              refine g_iinc (i := 5) (L1 := [some (.ref 60), some (.long x), none, some (.long (((s ||| ((Int64.ofNat 1) <<< ((Int32.ofNat (k - 1)).toInt64 &&& 63))) ||| ((Int64.ofNat 1) <<< ((Int32.ofNat (k + 1)).toInt64 &&& 63))) ||| ((Int64.ofNat 1) <<< ((Int32.ofNat (k + W)).toInt64 &&& 63)))), none, some (.int ((Int32.ofNat k) + Int32.ofInt 1))]) rfl rfl rfl ?_
              rw [ofN_add (by omega)]
              refine g_goto 5 rfl rfl ?_
              refine ih (k + 1) _ (by omega) (bp_im b_66 (fun i hi => ?_))
              rw [nbP_s]
              have hb : (bt x k = true) = True := eq_true c_1
              rw [hb]
              unfold adj
              generalize nbP W (W * H) x k i = P
              constructor
              · intro z
                rcases z with z
                by_cases hP : P
                · exact Or.inl hP
                · refine Or.inr ⟨trivial, ?_⟩
                  simp only [hP, false_or] at z <;> omega
              · intro z
                by_cases hP : P
                · simp only [hP, true_or]
                · simp only [hP, false_or, true_and] at z ⊢
                  first | omega | (exact absurd z (by omega))
          · skip
            rw [i_lt, ek, hw0] at c_61
            refine g_lload_n (i := 3) rfl rfl ?_
            refine g_lconst (n := 1) rfl ?_
            show sGo none 222 _ 87 [some (.ref 60), some (.long x), none, some (.long ((s ||| ((Int64.ofNat 1) <<< ((Int32.ofNat (k - 1)).toInt64 &&& 63))) ||| ((Int64.ofNat 1) <<< ((Int32.ofNat (k + 1)).toInt64 &&& 63)))), none, some (.int (Int32.ofNat k))] [.long (Int64.ofNat 1), .long ((s ||| ((Int64.ofNat 1) <<< ((Int32.ofNat (k - 1)).toInt64 &&& 63))) ||| ((Int64.ofNat 1) <<< ((Int32.ofNat (k + 1)).toInt64 &&& 63)))] _ _
            refine g_iload (i := 5) rfl rfl ?_
            refine g_aload_n (i := 0) rfl rfl ?_
            refine g_getfield (v := .int (J 0)) rfl hr (by decide) rfl ?_
            refine g_isub rfl ?_
            have t_67 : ((Int32.ofNat k) - (J 0)).toInt = ((k : Nat) : Int) - ((W : Nat) : Int) := by rw [i_sub (by rw [ek, hw0]; omega) (by rw [ek, hw0]; omega), ek, hw0]
            have e_68 : Int32.ofNat k - J 0 = Int32.ofNat (k - W) := Int32.toInt_inj.mp (by rw [ofN_toInt (n := k - W) (by omega)]; omega)
            rw [e_68]
            have b_69 := bp_or1 (k := k - W) b_60 (by omega)
            refine g_lshl rfl ?_
            refine g_lor rfl ?_
            refine g_lstore_n (i := 3) (L1 := [some (.ref 60), some (.long x), none, some (.long (((s ||| ((Int64.ofNat 1) <<< ((Int32.ofNat (k - 1)).toInt64 &&& 63))) ||| ((Int64.ofNat 1) <<< ((Int32.ofNat (k + 1)).toInt64 &&& 63))) ||| ((Int64.ofNat 1) <<< ((Int32.ofNat (k - W)).toInt64 &&& 63)))), none, some (.int (Int32.ofNat k))]) rfl (Nat.le_of_ble_eq_true rfl) rfl ?_
            refine g_iload (i := 5) rfl rfl ?_
            refine g_aload_n (i := 0) rfl rfl ?_
            refine g_getfield (v := .int (J 0)) rfl hr (by decide) rfl ?_
            refine g_iadd rfl ?_
            have t_70 : ((Int32.ofNat k) + (J 0)).toInt = ((k + W : Nat) : Int) := by rw [i_add (by rw [ek, hw0]; omega) (by rw [ek, hw0]; omega), ek, hw0]; omega
            refine g_aload_n (i := 0) rfl rfl ?_
            refine g_getfield (v := .int (J 0)) rfl hr (by decide) rfl ?_
            refine g_aload_n (i := 0) rfl rfl ?_
            refine g_getfield (v := .int (J 1)) rfl hr (by decide) rfl ?_
            refine g_imul rfl ?_
            refine g_icmp_ge 128 rfl rfl (fun c_71 => ?_) (fun c_71 => ?_)
            · skip
              rw [i_le, t_70, hwn] at c_71
              refine g_iinc (i := 5) (L1 := [some (.ref 60), some (.long x), none, some (.long (((s ||| ((Int64.ofNat 1) <<< ((Int32.ofNat (k - 1)).toInt64 &&& 63))) ||| ((Int64.ofNat 1) <<< ((Int32.ofNat (k + 1)).toInt64 &&& 63))) ||| ((Int64.ofNat 1) <<< ((Int32.ofNat (k - W)).toInt64 &&& 63)))), none, some (.int ((Int32.ofNat k) + Int32.ofInt 1))]) rfl rfl rfl ?_
              rw [ofN_add (by omega)]
              refine g_goto 5 rfl rfl ?_
              refine ih (k + 1) _ (by omega) (bp_im b_69 (fun i hi => ?_))
              rw [nbP_s]
              have hb : (bt x k = true) = True := eq_true c_1
              rw [hb]
              unfold adj
              generalize nbP W (W * H) x k i = P
              constructor
              · intro z
                rcases z with z
                by_cases hP : P
                · exact Or.inl hP
                · refine Or.inr ⟨trivial, ?_⟩
                  simp only [hP, false_or] at z <;> omega
              · intro z
                by_cases hP : P
                · simp only [hP, true_or]
                · simp only [hP, false_or, true_and] at z ⊢
                  first | omega | (exact absurd z (by omega))
            · skip
              rw [i_le, t_70, hwn] at c_71
              refine g_lload_n (i := 3) rfl rfl ?_
              refine g_lconst (n := 1) rfl ?_
              show sGo none 222 _ 118 [some (.ref 60), some (.long x), none, some (.long (((s ||| ((Int64.ofNat 1) <<< ((Int32.ofNat (k - 1)).toInt64 &&& 63))) ||| ((Int64.ofNat 1) <<< ((Int32.ofNat (k + 1)).toInt64 &&& 63))) ||| ((Int64.ofNat 1) <<< ((Int32.ofNat (k - W)).toInt64 &&& 63)))), none, some (.int (Int32.ofNat k))] [.long (Int64.ofNat 1), .long (((s ||| ((Int64.ofNat 1) <<< ((Int32.ofNat (k - 1)).toInt64 &&& 63))) ||| ((Int64.ofNat 1) <<< ((Int32.ofNat (k + 1)).toInt64 &&& 63))) ||| ((Int64.ofNat 1) <<< ((Int32.ofNat (k - W)).toInt64 &&& 63)))] _ _
              refine g_iload (i := 5) rfl rfl ?_
              refine g_aload_n (i := 0) rfl rfl ?_
              refine g_getfield (v := .int (J 0)) rfl hr (by decide) rfl ?_
              refine g_iadd rfl ?_
              have t_72 : ((Int32.ofNat k) + (J 0)).toInt = ((k + W : Nat) : Int) := by rw [i_add (by rw [ek, hw0]; omega) (by rw [ek, hw0]; omega), ek, hw0]; omega
              have e_73 : Int32.ofNat k + J 0 = Int32.ofNat (k + W) := Int32.toInt_inj.mp (by rw [ofN_toInt (n := k + W) (by omega)]; omega)
              rw [e_73]
              have b_74 := bp_or1 (k := k + W) b_69 (by omega)
              refine g_lshl rfl ?_
              refine g_lor rfl ?_
              refine g_lstore_n (i := 3) (L1 := [some (.ref 60), some (.long x), none, some (.long ((((s ||| ((Int64.ofNat 1) <<< ((Int32.ofNat (k - 1)).toInt64 &&& 63))) ||| ((Int64.ofNat 1) <<< ((Int32.ofNat (k + 1)).toInt64 &&& 63))) ||| ((Int64.ofNat 1) <<< ((Int32.ofNat (k - W)).toInt64 &&& 63))) ||| ((Int64.ofNat 1) <<< ((Int32.ofNat (k + W)).toInt64 &&& 63)))), none, some (.int (Int32.ofNat k))]) rfl (Nat.le_of_ble_eq_true rfl) rfl ?_
              refine g_iinc (i := 5) (L1 := [some (.ref 60), some (.long x), none, some (.long ((((s ||| ((Int64.ofNat 1) <<< ((Int32.ofNat (k - 1)).toInt64 &&& 63))) ||| ((Int64.ofNat 1) <<< ((Int32.ofNat (k + 1)).toInt64 &&& 63))) ||| ((Int64.ofNat 1) <<< ((Int32.ofNat (k - W)).toInt64 &&& 63))) ||| ((Int64.ofNat 1) <<< ((Int32.ofNat (k + W)).toInt64 &&& 63)))), none, some (.int ((Int32.ofNat k) + Int32.ofInt 1))]) rfl rfl rfl ?_
              rw [ofN_add (by omega)]
              refine g_goto 5 rfl rfl ?_
              refine ih (k + 1) _ (by omega) (bp_im b_74 (fun i hi => ?_))
              rw [nbP_s]
              have hb : (bt x k = true) = True := eq_true c_1
              rw [hb]
              unfold adj
              generalize nbP W (W * H) x k i = P
              constructor
              · intro z
                rcases z with z
                by_cases hP : P
                · exact Or.inl hP
                · refine Or.inr ⟨trivial, ?_⟩
                  simp only [hP, false_or] at z <;> omega
              · intro z
                by_cases hP : P
                · simp only [hP, true_or]
                · simp only [hP, false_or, true_and] at z ⊢
                  first | omega | (exact absurd z (by omega))
    · skip
      rw [zI_eq0] at c_1
      refine g_goto 128 rfl rfl ?_
      refine g_iinc (i := 5) (L1 := [some (.ref 60), some (.long x), none, some (.long s), none, some (.int ((Int32.ofNat k) + Int32.ofInt 1))]) rfl rfl rfl ?_
      rw [ofN_add (by omega)]
      refine g_goto 5 rfl rfl ?_
      exact ih (k + 1) _ (by omega) (bp_im hs (fun i hi => by rw [nbP_s]; exact ⟨Or.inl, fun z => z.resolve_right (fun y => c_1 y.1)⟩))
theorem s_beside12 {d : Nat} {h : sHp} {J : Nat → Int32} {W H : Nat} {x : Int64} (hd : 2 ≤ d) (hr : h[60]? = some (mO J)) (g : gdM J W H) : sDo d 222 [.ref 60, .long x] h (fun r h' => h' = h ∧ r = some (.long (besS W (W * H) x))) := by
  have key := s_beside_go (d := d - 1) (x := x) (by omega) hr g (W * H) 0 (Int64.ofNat 0) (by omega) (bp_0 (fun i z => by obtain ⟨q, h1, -⟩ := z; omega))
  refine sDo_of1 (nL := 6) (L := [some (.ref 60), some (.long x), none, none, none, none]) (by omega) rfl rfl ?_
  refine g_lconst (n := 0) rfl ?_
  show sGo none 222 _ 1 [some (.ref 60), some (.long x), none, none, none, none] [.long (Int64.ofNat 0)] _ _
  refine g_lstore_n (i := 3) (L1 := [some (.ref 60), some (.long x), none, some (.long (Int64.ofNat 0)), none, none]) rfl (Nat.le_of_ble_eq_true rfl) rfl ?_
  refine g_iconst (n := 0) rfl ?_
  refine g_istore (i := 5) (L1 := [some (.ref 60), some (.long x), none, some (.long (Int64.ofNat 0)), none, some (.int (Int32.ofInt 0))]) rfl (Nat.le_of_ble_eq_true rfl) rfl ?_
  exact key
theorem s_beside12r {d : Nat} {h : sHp} {J : Nat → Int32} {W H : Nat} {x : Int64} (hd : 2 ≤ d) (hr : h[60]? = some (mO J)) (g : gdM J W H) : sDo d 222 [.ref 60, .long x] h (fun r h' => h' = h ∧ r = some (.long (besS W (W * H) x))) := s_beside12 hd hr g
/-- inside a set -/
def sb (x y : Int64) : Prop := ∀ i, i < 64 → bt x i = true → bt y i = true
def inN (x : Int64) (n : Nat) : Prop := ∀ i, i < 64 → bt x i = true → i < n
theorem bes_n {W H : Nat} {x : Int64} (w2 : 2 ≤ W) (w8 : W ≤ 8) (h8 : H ≤ 8) (hn : W * H ≤ 64) : inN (besS W (W * H) x) (W * H) := fun i hi h => by
  obtain ⟨q, h1, h2, h3⟩ := (bp_stC _ i hi).mp h
  have hni := nxt_in W (by omega) H (by omega) q (by omega) h1
  unfold adj at h3
  rcases h3 with h3 | h3 | h3 | h3
  · omega
  · have := hni h3.2; omega
  · omega
  · exact h3.2
theorem with_eq {c : CF} {W H : Nat} {x : Int64} (g : gdF c W H) (hx : inN x (W * H)) : (x ||| ((((x <<< ((c.1 0).toInt64 &&& 63)) ||| ((x.toUInt64 >>> ((c.1 0).toInt64.toUInt64 &&& Int64.toUInt64 63)).toInt64)) ||| ((x &&& (c.2.1 4 ^^^ lM1)) <<< ((Int32.ofInt 1).toInt64 &&& 63))) ||| ((((x &&& (c.2.1 3 ^^^ lM1))).toUInt64 >>> ((Int32.ofInt 1).toInt64.toUInt64 &&& Int64.toUInt64 63)).toInt64))) &&& c.2.1 2 = x ||| besS W (W * H) x := by
  have hn := gdF_n g
  obtain ⟨gw, gh, w2, w8, h2, h8, g2, g3, g4, g5, g6⟩ := g
  rw [gw, g2, g3, g4, show Int32.ofInt 1 = Int32.ofNat 1 from rfl]
  apply bt_ext
  intro i hi
  rw [bt_and, bt_or, bt_or, bt_or, bt_or, bt_or, bt_shl (by omega), bt_ushr (by omega), bt_shl (by omega), bt_ushr (by omega), bt_and, bt_not, bt_and, bt_not, bt_stO _ _ hn.1, bt_stO _ _ hn.1, bt_stO _ _ hn.1]
  have hb := bp_stC (nbP W (W * H) x (W * H)) i hi
  have hbn := bes_n (x := x) w2 w8 h8 hn.1 i hi
  have hxi := hx i hi
  have hml := Nat.mod_lt (i - 1) (show W > 0 by omega)
  have hml2 := Nat.mod_lt (i + 1) (show W > 0 by omega)
  apply Bool.eq_iff_iff.mpr
  simp only [Bool.and_eq_true, Bool.or_eq_true, Bool.not_eq_true', Bool.and_eq_false_iff, decide_eq_true_eq, decide_eq_false_iff_not, Bool.and_true]
  show _ ↔ bt x i = true ∨ bt (besS W (W * H) x) i = true
  unfold besS at hbn ⊢
  rw [hb]
  rw [hb] at hbn
  constructor
  · rintro ⟨z, hin⟩
    rcases z with z | z
    · exact Or.inl z
    · refine Or.inr ?_
      rcases z with ((z | z) | z) | z
      · exact ⟨i - W, by omega, z.2.2, Or.inr (Or.inr (Or.inr ⟨by omega, hin⟩))⟩
      · have hlt : i + W < 64 := Classical.byContradiction (fun y => by rw [bt_big (by omega)] at z; cases z)
        exact ⟨i + W, hx _ hlt z, z, Or.inr (Or.inr (Or.inl rfl))⟩
      · obtain ⟨z1, z2, z3, z4, z5⟩ := z
        exact ⟨i - 1, by omega, z3, Or.inr (Or.inl ⟨by omega, by omega⟩)⟩
      · obtain ⟨z3, z4, z5⟩ := z
        have := hx _ z4 z3
        exact ⟨i + 1, this, z3, Or.inl ⟨rfl, by omega⟩⟩
  · rintro (z | z)
    · exact ⟨Or.inl z, hxi z⟩
    · refine ⟨Or.inr ?_, hbn z⟩
      obtain ⟨q, h1, h2', h3⟩ := z
      unfold adj at h3
      rcases h3 with ⟨rfl, h4⟩ | ⟨rfl, h4⟩ | rfl | ⟨rfl, h4⟩
      · exact Or.inr ⟨h2', by omega, Or.inr (by omega)⟩
      · refine Or.inl (Or.inr ⟨hi, by omega, ?_⟩)
        rw [Nat.add_sub_cancel]
        exact ⟨h2', by omega, Or.inr (by omega)⟩
      · exact Or.inl (Or.inl (Or.inr h2'))
      · refine Or.inl (Or.inl (Or.inl ⟨hi, by omega, ?_⟩))
        rw [Nat.add_sub_cancel]
        exact h2' 
theorem s_withBeside {d : Nat} {h : sHp} {p : Nat} {c : CF} {W H : Nat} {x : Int64} (hd : 1 ≤ d) (F : FC h p c) (g : gdF c W H) (hx : inN x (W * H)) : sDo d 44 [.ref p, .long x] h (fun r h' => h' = h ∧ r = some (.long (x ||| besS W (W * H) x))) := by
  have key := with_eq g hx
  refine sDo_of1 (nL := 5) (L := [some (.ref p), some (.long x), none, none, none]) (by omega) rfl rfl ?_
  refine g_lload_n (i := 1) rfl rfl ?_
  refine g_aload_n (i := 0) rfl rfl ?_
  refine g_getfield (v := .int (c.1 0)) rfl F.1 (by decide) rfl ?_
  refine g_lshl rfl ?_
  refine g_lload_n (i := 1) rfl rfl ?_
  refine g_aload_n (i := 0) rfl rfl ?_
  refine g_getfield (v := .int (c.1 0)) rfl F.1 (by decide) rfl ?_
  refine g_lushr rfl ?_
  refine g_lor rfl ?_
  refine g_lload_n (i := 1) rfl rfl ?_
  refine g_aload_n (i := 0) rfl rfl ?_
  refine g_getfield (v := .long (c.2.1 4)) rfl F.1 (by decide) rfl ?_
  refine g_ldc2_w (j := 18446744073709551615) rfl ?_
  refine g_lxor rfl ?_
  refine g_land rfl ?_
  refine g_iconst (n := 1) rfl ?_
  refine g_lshl rfl ?_
  refine g_lor rfl ?_
  refine g_lload_n (i := 1) rfl rfl ?_
  refine g_aload_n (i := 0) rfl rfl ?_
  refine g_getfield (v := .long (c.2.1 3)) rfl F.1 (by decide) rfl ?_
  refine g_ldc2_w (j := 18446744073709551615) rfl ?_
  refine g_lxor rfl ?_
  refine g_land rfl ?_
  refine g_iconst (n := 1) rfl ?_
  refine g_lushr rfl ?_
  refine g_lor rfl ?_
  refine g_lstore_n (i := 3) (L1 := [some (.ref p), some (.long x), none, some (.long ((((x <<< ((c.1 0).toInt64 &&& 63)) ||| ((x.toUInt64 >>> ((c.1 0).toInt64.toUInt64 &&& Int64.toUInt64 63)).toInt64)) ||| ((x &&& ((c.2.1 4) ^^^ (Int64.ofNat 18446744073709551615))) <<< ((Int32.ofInt 1).toInt64 &&& 63))) ||| (((x &&& ((c.2.1 3) ^^^ (Int64.ofNat 18446744073709551615))).toUInt64 >>> ((Int32.ofInt 1).toInt64.toUInt64 &&& Int64.toUInt64 63)).toInt64))), none]) rfl (Nat.le_of_ble_eq_true rfl) rfl ?_
  refine g_lload_n (i := 1) rfl rfl ?_
  refine g_lload_n (i := 3) rfl rfl ?_
  refine g_lor rfl ?_
  refine g_aload_n (i := 0) rfl rfl ?_
  refine g_getfield (v := .long (c.2.1 2)) rfl F.1 (by decide) rfl ?_
  refine g_land rfl ?_
  refine g_lreturn rfl rfl ?_
  exact ⟨rfl, congrArg (fun z => some (Value.long z)) key⟩
noncomputable def stpS (W n : Nat) (set x : Int64) : Int64 := x ||| (besS W n x &&& set)
noncomputable def grS (W n : Nat) (set : Int64) : Nat → Int64 → Int64
  | 0, x => x
  | f + 1, x => if stpS W n set x = x then x else grS W n set f (stpS W n set x)

noncomputable def grF (W n : Nat) (set x : Int64) : Int64 := grS W n set 65 x
theorem stp_sb {W n : Nat} {set x : Int64} : sb x (stpS W n set x) := fun i _ h => by
  unfold stpS
  rw [bt_or, h]; rfl
theorem stp_in {W n : Nat} {set x : Int64} (h : sb x set) : sb (stpS W n set x) set := fun i hi z => by
  unfold stpS at z
  rw [bt_or, bt_and, Bool.or_eq_true, Bool.and_eq_true] at z
  rcases z with z | z
  · exact h i hi z
  · exact z.2
theorem stp_lt {W n : Nat} {set x : Int64} (h : ¬ stpS W n set x = x) : cnt x < cnt (stpS W n set x) := cnt_lt stp_sb (fun z => h z.symm)
theorem grS_up {W n : Nat} {set : Int64} : ∀ (f : Nat) (x : Int64), 64 - cnt x < f → grS W n set (f + 1) x = grS W n set f x := by
  intro f
  induction f with
  | zero => intro x h; omega
  | succ f ih =>
    intro x h
    have hc := cnt_le (stpS W n set x)
    rw [show grS W n set (f + 1 + 1) x = if stpS W n set x = x then x else grS W n set (f + 1) (stpS W n set x) from rfl, show grS W n set (f + 1) x = if stpS W n set x = x then x else grS W n set f (stpS W n set x) from rfl]
    by_cases e : stpS W n set x = x
    · rw [if_pos e, if_pos e]
    · rw [if_neg e, if_neg e]
      have := stp_lt e
      exact ih _ (by omega)
theorem stp_0 {W n : Nat} {set : Int64} : stpS W n set (Int64.ofNat 0) = Int64.ofNat 0 := bt_ext (fun i hi => by
  have hb : bt (besS W n (Int64.ofNat 0)) i = false := by
    apply Bool.eq_false_iff.mpr
    intro z
    obtain ⟨q, h1, h2, h3⟩ := (bp_stC _ i hi).mp z
    rw [bt_0] at h2
    cases h2
  unfold stpS
  rw [bt_or, bt_and, bt_0, hb]; rfl)
theorem gr_64 {W n : Nat} {set x : Int64} : grS W n set 64 x = grF W n set x := by
  by_cases e : x = Int64.ofNat 0
  · subst e
    unfold grF
    rw [show grS W n set 64 (Int64.ofNat 0) = if stpS W n set (Int64.ofNat 0) = Int64.ofNat 0 then Int64.ofNat 0 else _ from rfl, show grS W n set 65 (Int64.ofNat 0) = if stpS W n set (Int64.ofNat 0) = Int64.ofNat 0 then Int64.ofNat 0 else _ from rfl, if_pos stp_0, if_pos stp_0]
  · have h1 : cnt x ≠ 0 := fun z => e (cnt_z z)
    have h2 := cnt_le x
    exact (grS_up 64 x (by omega)).symm
theorem gr_sb {W n : Nat} {set : Int64} : ∀ (f : Nat) (x : Int64), sb x (grS W n set f x) := by
  intro f
  induction f with
  | zero => intro x i _ h; exact h
  | succ f ih =>
    intro x i hi h
    unfold grS
    split
    · exact h
    · exact ih _ i hi (stp_sb i hi h)
theorem gr_in {W n : Nat} {set : Int64} : ∀ (f : Nat) (x : Int64), sb x set → sb (grS W n set f x) set := by
  intro f
  induction f with
  | zero => intro x h; exact h
  | succ f ih =>
    intro x h
    unfold grS
    split
    · exact h
    · exact ih _ (stp_in h)
theorem sb_and {x y : Int64} : sb (x &&& y) y := fun i _ h => by
  rw [bt_and, Bool.and_eq_true] at h; exact h.2
theorem s_grown11_go {d : Nat} {h : sHp} {p : Nat} {c : CF} {W H : Nat} {q0 set : Int64} (hd : 1 ≤ d) (F : FC h p c) (g : gdF c W H) (hs : inN set (W * H)) : ∀ (f : Nat) (x : Int64) (k : Nat) (o8 : Option Value), f + k = 64 → sb x set → sGo none 45 d 8 [some (.ref p), some (.long q0), none, some (.long set), none, some (.long x), none, some (.int (Int32.ofNat k)), o8, none] [] h (fun r h' => h' = h ∧ r = some (.long (grS W (W * H) set f x))) := by
  intro f
  induction f with
  | zero =>
    intro x k o8 hk hx
    have ek := ofN_toInt (n := k) (by omega)
    have e64 : (Int8.ofInt 64).toInt32.toInt = 64 := rfl
    refine g_iload (i := 7) rfl rfl ?_
    refine g_bipush (n := 64) rfl ?_
    refine g_icmp_ge 46 rfl rfl (fun _ => ?_) (fun hc => absurd hc (by rw [i_le, ek, e64]; omega))
    refine g_lload (i := 5) rfl rfl ?_
    refine g_lreturn rfl rfl ?_
    exact ⟨rfl, rfl⟩
  | succ f ih =>
    intro x k o8 hk hx
    have ek := ofN_toInt (n := k) (by omega)
    have e64 : (Int8.ofInt 64).toInt32.toInt = 64 := rfl
    have hxn : inN x (W * H) := fun i hi z => hs i hi (hx i hi z)
    have hnx : (x ||| besS W (W * H) x) &&& set = stpS W (W * H) set x := bt_ext (fun i hi => by
      unfold stpS
      rw [bt_and, bt_or, bt_or, bt_and]
      by_cases z : bt x i = true
      · rw [z, hx i hi z]; rfl
      · rw [nTF z, Bool.false_or, Bool.false_or])
    refine g_iload (i := 7) rfl rfl ?_
    refine g_bipush (n := 64) rfl ?_
    refine g_icmp_ge 46 rfl rfl (fun hc => absurd hc (by rw [i_le, ek, e64]; omega)) (fun _ => ?_)
    refine g_aload_n (i := 0) rfl rfl ?_
    refine g_lload (i := 5) rfl rfl ?_
    refine g_virt1 (Qc := fun r h' => h' = h ∧ r = some (.long (x ||| besS W (W * H) x))) rfl (by decide) rfl F.1 rfl (Nat.le_of_ble_eq_true rfl) (s_withBeside (by omega) F g hxn) (fun r h hq9 => ?_)
    obtain ⟨rfl, rfl⟩ := hq9
    refine g_lload_n (i := 3) rfl rfl ?_
    refine g_land rfl ?_
    rw [hnx]
    refine g_lstore (i := 8) (L1 := [some (.ref p), some (.long q0), none, some (.long set), none, some (.long x), none, some (.int (Int32.ofNat k)), some (.long (stpS W (W * H) set x)), none]) rfl (Nat.le_of_ble_eq_true rfl) rfl ?_
    refine g_lload (i := 8) rfl rfl ?_
    refine g_lload (i := 5) rfl rfl ?_
    refine g_lcmp rfl ?_
    refine g_if_ne 36 rfl rfl (fun c_1 => ?_) (fun c_1 => ?_)
    · skip
      rw [lc_eq] at c_1
      refine g_lload (i := 8) rfl rfl ?_
      refine g_lstore (i := 5) (L1 := [some (.ref p), some (.long q0), none, some (.long set), none, some (.long (stpS W (W * H) set x)), none, some (.int (Int32.ofNat k)), some (.long (stpS W (W * H) set x)), none]) rfl (Nat.le_of_ble_eq_true rfl) rfl ?_
      refine g_iinc (i := 7) (L1 := [some (.ref p), some (.long q0), none, some (.long set), none, some (.long (stpS W (W * H) set x)), none, some (.int ((Int32.ofNat k) + Int32.ofInt 1)), some (.long (stpS W (W * H) set x)), none]) rfl rfl rfl ?_
      rw [ofN_add (by omega)]
      refine g_goto 8 rfl rfl ?_
      have key := ih (stpS W (W * H) set x) (k + 1) (some (.long (stpS W (W * H) set x))) (by omega) (stp_in hx)
      rw [show grS W (W * H) set (f + 1) x = if stpS W (W * H) set x = x then x else grS W (W * H) set f (stpS W (W * H) set x) from rfl, if_neg c_1]
      exact key
    · skip
      rw [lc_eq] at c_1
      refine g_lload (i := 5) rfl rfl ?_
      refine g_lreturn rfl rfl ?_
      exact ⟨rfl, by rw [show grS W (W * H) set (f + 1) x = if stpS W (W * H) set x = x then x else grS W (W * H) set f (stpS W (W * H) set x) from rfl, if_pos c_1]⟩
theorem s_grown11 {d : Nat} {h : sHp} {p : Nat} {c : CF} {W H : Nat} {q0 set : Int64} (hd : 2 ≤ d) (F : FC h p c) (g : gdF c W H) (hs : inN set (W * H)) : sDo d 45 [.ref p, .long q0, .long set] h (fun r h' => h' = h ∧ r = some (.long (grF W (W * H) set (q0 &&& set)))) := by
  have key := s_grown11_go (d := d - 1) (q0 := q0) (by omega) F g hs 64 (q0 &&& set) 0 none rfl sb_and
  rw [gr_64] at key
  refine sDo_of1 (nL := 10) (L := [some (.ref p), some (.long q0), none, some (.long set), none, none, none, none, none, none]) (by omega) rfl rfl ?_
  refine g_lload_n (i := 1) rfl rfl ?_
  refine g_lload_n (i := 3) rfl rfl ?_
  refine g_land rfl ?_
  refine g_lstore (i := 5) (L1 := [some (.ref p), some (.long q0), none, some (.long set), none, some (.long (q0 &&& set)), none, none, none, none]) rfl (Nat.le_of_ble_eq_true rfl) rfl ?_
  refine g_iconst (n := 0) rfl ?_
  refine g_istore (i := 7) (L1 := [some (.ref p), some (.long q0), none, some (.long set), none, some (.long (q0 &&& set)), none, some (.int (Int32.ofInt 0)), none, none]) rfl (Nat.le_of_ble_eq_true rfl) rfl ?_
  exact key
theorem s_grown12_go {d : Nat} {h : sHp} {J : Nat → Int32} {W H : Nat} {q0 set : Int64} (hd : 2 ≤ d) (hr : h[60]? = some (mO J)) (g : gdM J W H) : ∀ (f : Nat) (x : Int64), 64 - cnt x < f → sGo none 223 d 18 [some (.ref 60), some (.long q0), none, some (.long set), none, some (.long x), none, some (.long (stpS W (W * H) set x)), none] [] h (fun r h' => h' = h ∧ r = some (.long (grS W (W * H) set f x))) := by
  intro f
  induction f with
  | zero => intro x h; omega
  | succ f ih =>
    intro x hf
    have hc2 := cnt_le (stpS W (W * H) set x)
    refine g_lload (i := 7) rfl rfl ?_
    refine g_lload (i := 5) rfl rfl ?_
    refine g_lcmp rfl ?_
    refine g_if_eq 46 rfl rfl (fun c_1 => ?_) (fun c_1 => ?_)
    · skip
      rw [lc_eq] at c_1
      refine g_lload (i := 5) rfl rfl ?_
      refine g_lreturn rfl rfl ?_
      exact ⟨rfl, by rw [show grS W (W * H) set (f + 1) x = if stpS W (W * H) set x = x then x else grS W (W * H) set f (stpS W (W * H) set x) from rfl, if_pos c_1]⟩
    · skip
      rw [lc_eq] at c_1
      refine g_lload (i := 7) rfl rfl ?_
      refine g_lstore (i := 5) (L1 := [some (.ref 60), some (.long q0), none, some (.long set), none, some (.long (stpS W (W * H) set x)), none, some (.long (stpS W (W * H) set x)), none]) rfl (Nat.le_of_ble_eq_true rfl) rfl ?_
      refine g_lload (i := 5) rfl rfl ?_
      refine g_aload_n (i := 0) rfl rfl ?_
      refine g_lload (i := 5) rfl rfl ?_
      refine g_virt1 (Qc := fun r h' => h' = h ∧ r = some (.long (besS W (W * H) (stpS W (W * H) set x)))) rfl (by decide) rfl hr rfl (Nat.le_of_ble_eq_true rfl) (s_beside12 (by omega) hr g) (fun r h hq9 => ?_)
      obtain ⟨rfl, rfl⟩ := hq9
      refine g_lload_n (i := 3) rfl rfl ?_
      refine g_land rfl ?_
      refine g_lor rfl ?_
      refine g_lstore (i := 7) (L1 := [some (.ref 60), some (.long q0), none, some (.long set), none, some (.long (stpS W (W * H) set x)), none, some (.long ((stpS W (W * H) set x) ||| ((besS W (W * H) (stpS W (W * H) set x)) &&& set))), none]) rfl (Nat.le_of_ble_eq_true rfl) rfl ?_
      refine g_goto 18 rfl rfl ?_
      exact (show grS W (W * H) set (f + 1) x = _ from if_neg c_1) ▸ ih _ (by have := stp_lt c_1; omega)
theorem s_grown12 {d : Nat} {h : sHp} {J : Nat → Int32} {W H : Nat} {q0 set : Int64} (hd : 3 ≤ d) (hr : h[60]? = some (mO J)) (g : gdM J W H) : sDo d 223 [.ref 60, .long q0, .long set] h (fun r h' => h' = h ∧ r = some (.long (grF W (W * H) set (q0 &&& set)))) := by
  have key := s_grown12_go (d := d - 1) (q0 := q0) (set := set) (by omega) hr g 65 (q0 &&& set) (by omega)
  refine sDo_of1 (nL := 9) (L := [some (.ref 60), some (.long q0), none, some (.long set), none, none, none, none, none]) (by omega) rfl rfl ?_
  refine g_lload_n (i := 1) rfl rfl ?_
  refine g_lload_n (i := 3) rfl rfl ?_
  refine g_land rfl ?_
  refine g_lstore (i := 5) (L1 := [some (.ref 60), some (.long q0), none, some (.long set), none, some (.long (q0 &&& set)), none, none, none]) rfl (Nat.le_of_ble_eq_true rfl) rfl ?_
  refine g_lload (i := 5) rfl rfl ?_
  refine g_aload_n (i := 0) rfl rfl ?_
  refine g_lload (i := 5) rfl rfl ?_
  refine g_virt1 (Qc := fun r h' => h' = h ∧ r = some (.long (besS W (W * H) (q0 &&& set)))) rfl (by decide) rfl hr rfl (Nat.le_of_ble_eq_true rfl) (s_beside12 (by omega) hr g) (fun r h hq9 => ?_)
  obtain ⟨rfl, rfl⟩ := hq9
  refine g_lload_n (i := 3) rfl rfl ?_
  refine g_land rfl ?_
  refine g_lor rfl ?_
  refine g_lstore (i := 7) (L1 := [some (.ref 60), some (.long q0), none, some (.long set), none, some (.long (q0 &&& set)), none, some (.long ((q0 &&& set) ||| ((besS W (W * H) (q0 &&& set)) &&& set))), none]) rfl (Nat.le_of_ble_eq_true rfl) rfl ?_
  exact key
noncomputable def ptS (W n : Nat) : Nat → Int64 → Nat
  | 0, _ => 0
  | f + 1, x => if x = Int64.ofNat 0 then 0 else ptS W n f (x &&& (grF W n x ((x &&& -x) &&& x) ^^^ lM1)) + 1
theorem neg_low {x : Int64} {j : Nat} (hj : j < 64) (h1 : bt x j = true) (h0 : ∀ i, i < j → bt x i = false) : bt (x &&& -x) j = true := by
  rw [bt_and, h1, Bool.true_and]
  show (-x.toBitVec).getLsbD j = true
  rw [BitVec.getLsbD_neg]
  have e : (∃ k, k < j ∧ x.toBitVec.getLsbD k = true) = False := by
    apply eq_false
    rintro ⟨k, hk, hz⟩
    have := h0 k hk
    unfold bt at this
    rw [this] at hz
    cases hz
  have h2 : x.toBitVec.getLsbD j = true := h1
  simp only [h2, e, decide_false, Bool.and_false]
  rfl
theorem pt_lt {W n : Nat} {x : Int64} (hx : x ≠ Int64.ofNat 0) : cnt (x &&& (grF W n x ((x &&& -x) &&& x) ^^^ lM1)) < cnt x := by
  obtain ⟨j, h1, h2, h3⟩ := low_of hx
  have hg : bt (grF W n x ((x &&& -x) &&& x)) j = true := gr_sb 65 _ j h1 (by rw [bt_and, neg_low h1 h2 h3, h2]; rfl)
  refine cntB_lt (fun i _ z => ?_) (j := j) ?_ h2 64 (by omega) h1
  · rw [bt_and, Bool.and_eq_true] at z; exact z.1
  · rw [bt_and, bt_not, hg]; simp
theorem pt_up {W n : Nat} : ∀ (f : Nat) (x : Int64), cnt x ≤ f → ∀ f', f ≤ f' → ptS W n f' x = ptS W n f x := by
  intro f
  induction f with
  | zero =>
    intro x h f' _
    have e := cnt_z (show cnt x = 0 by omega)
    subst e
    cases f' with
    | zero => rfl
    | succ f' => exact if_pos rfl
  | succ f ih =>
    intro x h f' hf
    obtain ⟨e, rfl⟩ : ∃ e, f' = e + 1 := ⟨f' - 1, by omega⟩
    unfold ptS
    by_cases hx : x = Int64.ofNat 0
    · rw [if_pos hx, if_pos hx]
    · rw [if_neg hx, if_neg hx, ih _ (by have := pt_lt (W := W) (n := n) hx; omega) e (by omega)]
theorem ptS_le {W n : Nat} : ∀ (f : Nat) (x : Int64), ptS W n f x ≤ f := by
  intro f
  induction f with
  | zero => intro x; exact Nat.le_refl 0
  | succ f ih =>
    intro x
    unfold ptS
    split
    · omega
    · have := ih (x &&& (grF W n x ((x &&& -x) &&& x) ^^^ lM1)); omega
theorem s_pieces_go {d : Nat} {h : sHp} {p : Nat} {c : CF} {W H : Nat} {set : Int64} (hd : 2 ≤ d) (F : FC h p c) (g : gdF c W H) : ∀ (f : Nat) (x : Int64) (k : Nat), k + f = 64 → cnt x ≤ f → inN x (W * H) → sGo none 46 d 10 [some (.ref p), some (.long set), none, some (.long x), none, some (.int (Int32.ofNat k))] [] h (fun r h' => h' = h ∧ r = some (.int (Int32.ofNat (ptS W (W * H) f x + k)))) := by
  intro f
  induction f with
  | zero =>
    intro x k hk hc hx
    have hz := cnt_z (show cnt x = 0 by omega)
    refine g_lload_n (i := 3) rfl rfl ?_
    refine g_lconst (n := 0) rfl ?_
    show sGo none 46 _ 12 [some (.ref p), some (.long set), none, some (.long x), none, some (.int (Int32.ofNat k))] [.long (Int64.ofNat 0), .long x] _ _
    refine g_lcmp rfl ?_
    refine g_if_eq 45 rfl rfl (fun _ => ?_) (fun hc => absurd hc (by exact fun z => z (lc_eq.mpr hz)))
    refine g_iload (i := 5) rfl rfl ?_
    refine g_ireturn (ty := .int) rfl rfl rfl ?_
    exact ⟨rfl, by rw [show ptS W (W * H) 0 x = 0 from rfl, Nat.zero_add]⟩
  | succ f ih =>
    intro x k hk hc hx
    have ek := ofN_toInt (n := k) (by omega)
    have e64 : (Int8.ofInt 64).toInt32.toInt = 64 := rfl
    refine g_lload_n (i := 3) rfl rfl ?_
    refine g_lconst (n := 0) rfl ?_
    show sGo none 46 _ 12 [some (.ref p), some (.long set), none, some (.long x), none, some (.int (Int32.ofNat k))] [.long (Int64.ofNat 0), .long x] _ _
    refine g_lcmp rfl ?_
    refine g_if_eq 45 rfl rfl (fun c_1 => ?_) (fun c_1 => ?_)
    · skip
      rw [lc_eq] at c_1
      refine g_iload (i := 5) rfl rfl ?_
      refine g_ireturn (ty := .int) rfl rfl rfl ?_
      exact ⟨rfl, by rw [show ptS W (W * H) (f + 1) x = _ from if_pos c_1, Nat.zero_add]⟩
    · skip
      rw [lc_eq] at c_1
      refine g_iload (i := 5) rfl rfl ?_
      refine g_bipush (n := 64) rfl ?_
      refine g_icmp_ge 45 rfl rfl (fun hc => absurd hc (by rw [i_le, ek, e64]; omega)) (fun _ => ?_)
      refine g_lload_n (i := 3) rfl rfl ?_
      refine g_aload_n (i := 0) rfl rfl ?_
      refine g_lload_n (i := 3) rfl rfl ?_
      refine g_lload_n (i := 3) rfl rfl ?_
      refine g_lneg rfl ?_
      refine g_land rfl ?_
      refine g_lload_n (i := 3) rfl rfl ?_
      refine g_virt2 (Qc := fun r h' => h' = h ∧ r = some (.long (grF W (W * H) x ((x &&& (-x)) &&& x)))) rfl (by decide) rfl F.1 rfl (Nat.le_of_ble_eq_true rfl) (s_grown11 (by omega) F g hx) (fun r h hq9 => ?_)
      obtain ⟨rfl, rfl⟩ := hq9
      refine g_ldc2_w (j := 18446744073709551615) rfl ?_
      refine g_lxor rfl ?_
      refine g_land rfl ?_
      refine g_lstore_n (i := 3) (L1 := [some (.ref p), some (.long set), none, some (.long (x &&& ((grF W (W * H) x ((x &&& (-x)) &&& x)) ^^^ (Int64.ofNat 18446744073709551615)))), none, some (.int (Int32.ofNat k))]) rfl (Nat.le_of_ble_eq_true rfl) rfl ?_
      refine g_iinc (i := 5) (L1 := [some (.ref p), some (.long set), none, some (.long (x &&& ((grF W (W * H) x ((x &&& (-x)) &&& x)) ^^^ (Int64.ofNat 18446744073709551615)))), none, some (.int ((Int32.ofNat k) + Int32.ofInt 1))]) rfl rfl rfl ?_
      rw [ofN_add (by omega)]
      refine g_goto 10 rfl rfl ?_
      have key := ih (x &&& (grF W (W * H) x ((x &&& -x) &&& x) ^^^ lM1)) (k + 1) (by omega) (by have := pt_lt (W := W) (n := W * H) c_1; omega) (fun i hi z => hx i hi (by rw [bt_and, Bool.and_eq_true] at z; exact z.1))
      rw [show ptS W (W * H) (f + 1) x = _ from if_neg c_1, Nat.add_right_comm]
      exact key
theorem s_pieces {d : Nat} {h : sHp} {p : Nat} {c : CF} {W H : Nat} {set : Int64} (hd : 3 ≤ d) (F : FC h p c) (g : gdF c W H) (hx : inN set (W * H)) : sDo d 46 [.ref p, .long set] h (fun r h' => h' = h ∧ r = some (.int (Int32.ofNat (ptS W (W * H) 64 set)))) := by
  have key := s_pieces_go (d := d - 1) (set := set) (by omega) F g 64 set 0 rfl (cnt_le set) hx
  rw [Nat.add_zero] at key
  have ha : set &&& c.2.1 2 = set := bt_ext (fun i hi => by
    rw [bt_and, g.2.2.2.2.2.2.1, bt_stO _ _ (gdF_n g).1, Bool.and_true]
    by_cases z : bt set i = true
    · rw [z, decide_eq_true (hx i hi z)]; rfl
    · rw [nTF z]; rfl)
  refine sDo_of1 (nL := 6) (L := [some (.ref p), some (.long set), none, none, none, none]) (by omega) rfl rfl ?_
  refine g_lload_n (i := 1) rfl rfl ?_
  refine g_aload_n (i := 0) rfl rfl ?_
  refine g_getfield (v := .long (c.2.1 2)) rfl F.1 (by decide) rfl ?_
  refine g_land rfl ?_
  rw [ha]
  refine g_lstore_n (i := 3) (L1 := [some (.ref p), some (.long set), none, some (.long set), none, none]) rfl (Nat.le_of_ble_eq_true rfl) rfl ?_
  refine g_iconst (n := 0) rfl ?_
  refine g_istore (i := 5) (L1 := [some (.ref p), some (.long set), none, some (.long set), none, some (.int (Int32.ofInt 0))]) rfl (Nat.le_of_ble_eq_true rfl) rfl ?_
  exact key
theorem s_partsOf_go {d : Nat} {h : sHp} {J : Nat → Int32} {W H : Nat} {set : Int64} (hd : 3 ≤ d) (hr : h[60]? = some (mO J)) (g : gdM J W H) : ∀ (f : Nat) (x : Int64) (k : Nat), k + f = 64 → cnt x ≤ f → sGo none 224 d 5 [some (.ref 60), some (.long set), none, some (.int (Int32.ofNat k)), some (.long x), none] [] h (fun r h' => h' = h ∧ r = some (.int (Int32.ofNat (ptS W (W * H) f x + k)))) := by
  intro f
  induction f with
  | zero =>
    intro x k hk hc
    have hz := cnt_z (show cnt x = 0 by omega)
    refine g_lload (i := 4) rfl rfl ?_
    refine g_lconst (n := 0) rfl ?_
    show sGo none 224 _ 8 [some (.ref 60), some (.long set), none, some (.int (Int32.ofNat k)), some (.long x), none] [.long (Int64.ofNat 0), .long x] _ _
    refine g_lcmp rfl ?_
    refine g_if_eq 39 rfl rfl (fun _ => ?_) (fun hc => absurd hc (by exact fun z => z (lc_eq.mpr hz)))
    refine g_iload_n (i := 3) rfl rfl ?_
    refine g_ireturn (ty := .int) rfl rfl rfl ?_
    exact ⟨rfl, by rw [show ptS W (W * H) 0 x = 0 from rfl, Nat.zero_add]⟩
  | succ f ih =>
    intro x k hk hc
    refine g_lload (i := 4) rfl rfl ?_
    refine g_lconst (n := 0) rfl ?_
    show sGo none 224 _ 8 [some (.ref 60), some (.long set), none, some (.int (Int32.ofNat k)), some (.long x), none] [.long (Int64.ofNat 0), .long x] _ _
    refine g_lcmp rfl ?_
    refine g_if_eq 39 rfl rfl (fun c_1 => ?_) (fun c_1 => ?_)
    · skip
      rw [lc_eq] at c_1
      refine g_iload_n (i := 3) rfl rfl ?_
      refine g_ireturn (ty := .int) rfl rfl rfl ?_
      exact ⟨rfl, by rw [show ptS W (W * H) (f + 1) x = _ from if_pos c_1, Nat.zero_add]⟩
    · skip
      rw [lc_eq] at c_1
      refine g_lload (i := 4) rfl rfl ?_
      refine g_aload_n (i := 0) rfl rfl ?_
      refine g_lload (i := 4) rfl rfl ?_
      refine g_lload (i := 4) rfl rfl ?_
      refine g_lneg rfl ?_
      refine g_land rfl ?_
      refine g_lload (i := 4) rfl rfl ?_
      refine g_virt2 (Qc := fun r h' => h' = h ∧ r = some (.long (grF W (W * H) x ((x &&& (-x)) &&& x)))) rfl (by decide) rfl hr rfl (Nat.le_of_ble_eq_true rfl) (s_grown12 (by omega) hr g) (fun r h hq9 => ?_)
      obtain ⟨rfl, rfl⟩ := hq9
      refine g_ldc2_w (j := 18446744073709551615) rfl ?_
      refine g_lxor rfl ?_
      refine g_land rfl ?_
      refine g_lstore (i := 4) (L1 := [some (.ref 60), some (.long set), none, some (.int (Int32.ofNat k)), some (.long (x &&& ((grF W (W * H) x ((x &&& (-x)) &&& x)) ^^^ (Int64.ofNat 18446744073709551615)))), none]) rfl (Nat.le_of_ble_eq_true rfl) rfl ?_
      refine g_iinc (i := 3) (L1 := [some (.ref 60), some (.long set), none, some (.int ((Int32.ofNat k) + Int32.ofInt 1)), some (.long (x &&& ((grF W (W * H) x ((x &&& (-x)) &&& x)) ^^^ (Int64.ofNat 18446744073709551615)))), none]) rfl rfl rfl ?_
      rw [ofN_add (by omega)]
      refine g_goto 5 rfl rfl ?_
      have key := ih (x &&& (grF W (W * H) x ((x &&& -x) &&& x) ^^^ lM1)) (k + 1) (by omega) (by have := pt_lt (W := W) (n := W * H) c_1; omega)
      rw [show ptS W (W * H) (f + 1) x = _ from if_neg c_1, Nat.add_right_comm]
      exact key
theorem s_partsOf {d : Nat} {h : sHp} {J : Nat → Int32} {W H : Nat} {set : Int64} (hd : 4 ≤ d) (hr : h[60]? = some (mO J)) (g : gdM J W H) : sDo d 224 [.ref 60, .long set] h (fun r h' => h' = h ∧ r = some (.int (Int32.ofNat (ptS W (W * H) 64 set)))) := by
  have key := s_partsOf_go (d := d - 1) (set := set) (by omega) hr g 64 set 0 rfl (cnt_le set)
  rw [Nat.add_zero] at key
  refine sDo_of1 (nL := 6) (L := [some (.ref 60), some (.long set), none, none, none, none]) (by omega) rfl rfl ?_
  refine g_iconst (n := 0) rfl ?_
  refine g_istore_n (i := 3) (L1 := [some (.ref 60), some (.long set), none, some (.int (Int32.ofInt 0)), none, none]) rfl (Nat.le_of_ble_eq_true rfl) rfl ?_
  refine g_lload_n (i := 1) rfl rfl ?_
  refine g_lstore (i := 4) (L1 := [some (.ref 60), some (.long set), none, some (.int (Int32.ofInt 0)), some (.long set), none]) rfl (Nat.le_of_ble_eq_true rfl) rfl ?_
  exact key
end
section
/-! ===== the fields out of what always holds ===== -/
theorem bA60B {h : sHp} (hH : bH h) {p n : Nat} {lo hi : Int} {cs : List Int} (hp : p < 79) (hg : bGam (bKp p (.inr (0, []))) = some (.inl (2, n, .inl (lo, hi), cs))) : ∃ f, h[p]? = some (.inl (2, n, .inl f)) ∧ (∀ i, i < n → lo ≤ (f i).toInt ∧ (f i).toInt ≤ hi) := by
  obtain ⟨c, ct, h1, h2, h3⟩ := bH_at hH hp
  rw [bKp_at hp c (.inr (0, [])), hg] at h2
  cases h2
  obtain ⟨f, rfl, h4⟩ := h3
  exact ⟨f, h1, h4.1⟩
theorem i_01 {x : Int32} (h0 : 0 ≤ x.toInt) (h1 : x.toInt ≤ 1) : x = 0 ∨ x = 1 := by
  rcases (show x.toInt = 0 ∨ x.toInt = 1 by omega) with e | e
  · exact Or.inl (Int32.toInt_inj.mp e)
  · exact Or.inr (Int32.toInt_inj.mp e)
def fxR (h : sHp) (p : Nat) : Prop := ∃ f : Nat → Option Nat, h[p + 3]? = some (.inl (5, 5, .inr (.inr (.inr (.inr f))))) ∧ ∀ k, k < 5 → f k = some (p + 4 + k)
theorem FC_at5 {h : sHp} (hH : bH h) (fx : fxR h 5) : ∃ c : CF, FC h 5 c ∧ (∀ k, k < 5 → c.2.2.2.2.2.1 k = 0 ∨ c.2.2.2.2.2.1 k = 1) := by
  obtain ⟨fs, hf, hl, ht⟩ := bFldK hH (p := 5) (by decide) rfl
  obtain ⟨v0, e0, t0⟩ := ht 0 _ rfl
  obtain ⟨x0, rfl, -, -⟩ := bT_int t0
  obtain ⟨v1, e1, t1⟩ := ht 1 _ rfl
  obtain ⟨x1, rfl, -, -⟩ := bT_int t1
  obtain ⟨v2, e2, t2⟩ := ht 2 _ rfl
  obtain ⟨x2, rfl⟩ := t2
  obtain ⟨v3, e3, t3⟩ := ht 3 _ rfl
  obtain ⟨x3, rfl⟩ := t3
  obtain ⟨v4, e4, t4⟩ := ht 4 _ rfl
  obtain ⟨x4, rfl⟩ := t4
  obtain ⟨v5, e5, t5⟩ := ht 5 _ rfl
  obtain ⟨x5, rfl⟩ := t5
  obtain ⟨v6, e6, t6⟩ := ht 6 _ rfl
  obtain ⟨x6, rfl⟩ := t6
  obtain ⟨v7, e7, t7⟩ := ht 7 _ rfl
  obtain ⟨x7, rfl, -, -⟩ := bT_int t7
  obtain ⟨v8, e8, t8⟩ := ht 8 _ rfl
  obtain ⟨x8, rfl, -, -⟩ := bT_int t8
  obtain ⟨v9, e9, t9⟩ := ht 9 _ rfl
  obtain ⟨x9, rfl, -, -⟩ := bT_int t9
  obtain ⟨v10, e10, t10⟩ := ht 10 _ rfl
  obtain ⟨x10, rfl, -, -⟩ := bT_int t10
  obtain ⟨v11, e11, t11⟩ := ht 11 _ rfl
  obtain ⟨x11, rfl, -, -⟩ := bT_int t11
  obtain ⟨v12, e12, t12⟩ := ht 12 _ rfl
  have r12 := bT_one (by decide) (by decide +kernel) t12
  subst r12
  obtain ⟨v13, e13, t13⟩ := ht 13 _ rfl
  have r13 := bT_one (by decide) (by decide +kernel) t13
  subst r13
  obtain ⟨v14, e14, t14⟩ := ht 14 _ rfl
  have r14 := bT_one (by decide) (by decide +kernel) t14
  subst r14
  obtain ⟨v15, e15, t15⟩ := ht 15 _ rfl
  have r15 := bT_one (by decide) (by decide +kernel) t15
  subst r15
  obtain ⟨v16, e16, t16⟩ := ht 16 _ rfl
  have r16 := bT_one (by decide) (by decide +kernel) t16
  subst r16
  have e : fs = [.int x0, .int x1, .long x2, .long x3, .long x4, .long x5, .long x6, .int x7, .int x8, .int x9, .int x10, .int x11, .ref 6, .ref 7, .ref 8, .ref 14, .ref 15] := List.ext_getElem? (fun j => match j with
    | 0 => e0
    | 1 => e1
    | 2 => e2
    | 3 => e3
    | 4 => e4
    | 5 => e5
    | 6 => e6
    | 7 => e7
    | 8 => e8
    | 9 => e9
    | 10 => e10
    | 11 => e11
    | 12 => e12
    | 13 => e13
    | 14 => e14
    | 15 => e15
    | 16 => e16
    | n + 17 => by rw [List.getElem?_eq_none (by rw [hl]; show 17 ≤ n + 17; omega)]; rfl)
  subst e
  obtain ⟨so, a1⟩ := bA60L hH (p := 6) (by decide) rfl
  obtain ⟨sh, a2, -, -⟩ := bA60 hH (p := 7) (by decide) rfl
  obtain ⟨w0, b0, -, -⟩ := bA60 hH (p := 9) (by decide) rfl
  obtain ⟨w1, b1, -, -⟩ := bA60 hH (p := 10) (by decide) rfl
  obtain ⟨w2, b2, -, -⟩ := bA60 hH (p := 11) (by decide) rfl
  obtain ⟨w3, b3, -, -⟩ := bA60 hH (p := 12) (by decide) rfl
  obtain ⟨w4, b4, -, -⟩ := bA60 hH (p := 13) (by decide) rfl
  obtain ⟨fo, a9, fb⟩ := bA60B hH (p := 14) (by decide) rfl
  obtain ⟨ow, a10⟩ := bA60L hH (p := 15) (by decide) rfl
  refine ⟨((fun j => match j with | 0 => x0 | 1 => x1 | 7 => x7 | 8 => x8 | 9 => x9 | 10 => x10 | 11 => x11 | _ => 0), (fun j => match j with | 2 => x2 | 3 => x3 | 4 => x4 | 5 => x5 | 6 => x6 | _ => 0), so, sh, (fun k => match k with | 0 => w0 | 1 => w1 | 2 => w2 | 3 => w3 | _ => w4), fo, ow), ⟨hf, a1, a2, fx, fun k hk => ?_, a9, a10⟩, fun k hk => i_01 (fb k hk).1 (fb k hk).2⟩
  match k, hk with
  | 0, _ => exact b0
  | 1, _ => exact b1
  | 2, _ => exact b2
  | 3, _ => exact b3
  | 4, _ => exact b4
  | k + 5, hk => exact absurd hk (by omega)
theorem FC_at16 {h : sHp} (hH : bH h) (fx : fxR h 16) : ∃ c : CF, FC h 16 c ∧ (∀ k, k < 5 → c.2.2.2.2.2.1 k = 0 ∨ c.2.2.2.2.2.1 k = 1) := by
  obtain ⟨fs, hf, hl, ht⟩ := bFldK hH (p := 16) (by decide) rfl
  obtain ⟨v0, e0, t0⟩ := ht 0 _ rfl
  obtain ⟨x0, rfl, -, -⟩ := bT_int t0
  obtain ⟨v1, e1, t1⟩ := ht 1 _ rfl
  obtain ⟨x1, rfl, -, -⟩ := bT_int t1
  obtain ⟨v2, e2, t2⟩ := ht 2 _ rfl
  obtain ⟨x2, rfl⟩ := t2
  obtain ⟨v3, e3, t3⟩ := ht 3 _ rfl
  obtain ⟨x3, rfl⟩ := t3
  obtain ⟨v4, e4, t4⟩ := ht 4 _ rfl
  obtain ⟨x4, rfl⟩ := t4
  obtain ⟨v5, e5, t5⟩ := ht 5 _ rfl
  obtain ⟨x5, rfl⟩ := t5
  obtain ⟨v6, e6, t6⟩ := ht 6 _ rfl
  obtain ⟨x6, rfl⟩ := t6
  obtain ⟨v7, e7, t7⟩ := ht 7 _ rfl
  obtain ⟨x7, rfl, -, -⟩ := bT_int t7
  obtain ⟨v8, e8, t8⟩ := ht 8 _ rfl
  obtain ⟨x8, rfl, -, -⟩ := bT_int t8
  obtain ⟨v9, e9, t9⟩ := ht 9 _ rfl
  obtain ⟨x9, rfl, -, -⟩ := bT_int t9
  obtain ⟨v10, e10, t10⟩ := ht 10 _ rfl
  obtain ⟨x10, rfl, -, -⟩ := bT_int t10
  obtain ⟨v11, e11, t11⟩ := ht 11 _ rfl
  obtain ⟨x11, rfl, -, -⟩ := bT_int t11
  obtain ⟨v12, e12, t12⟩ := ht 12 _ rfl
  have r12 := bT_one (by decide) (by decide +kernel) t12
  subst r12
  obtain ⟨v13, e13, t13⟩ := ht 13 _ rfl
  have r13 := bT_one (by decide) (by decide +kernel) t13
  subst r13
  obtain ⟨v14, e14, t14⟩ := ht 14 _ rfl
  have r14 := bT_one (by decide) (by decide +kernel) t14
  subst r14
  obtain ⟨v15, e15, t15⟩ := ht 15 _ rfl
  have r15 := bT_one (by decide) (by decide +kernel) t15
  subst r15
  obtain ⟨v16, e16, t16⟩ := ht 16 _ rfl
  have r16 := bT_one (by decide) (by decide +kernel) t16
  subst r16
  have e : fs = [.int x0, .int x1, .long x2, .long x3, .long x4, .long x5, .long x6, .int x7, .int x8, .int x9, .int x10, .int x11, .ref 17, .ref 18, .ref 19, .ref 25, .ref 26] := List.ext_getElem? (fun j => match j with
    | 0 => e0
    | 1 => e1
    | 2 => e2
    | 3 => e3
    | 4 => e4
    | 5 => e5
    | 6 => e6
    | 7 => e7
    | 8 => e8
    | 9 => e9
    | 10 => e10
    | 11 => e11
    | 12 => e12
    | 13 => e13
    | 14 => e14
    | 15 => e15
    | 16 => e16
    | n + 17 => by rw [List.getElem?_eq_none (by rw [hl]; show 17 ≤ n + 17; omega)]; rfl)
  subst e
  obtain ⟨so, a1⟩ := bA60L hH (p := 17) (by decide) rfl
  obtain ⟨sh, a2, -, -⟩ := bA60 hH (p := 18) (by decide) rfl
  obtain ⟨w0, b0, -, -⟩ := bA60 hH (p := 20) (by decide) rfl
  obtain ⟨w1, b1, -, -⟩ := bA60 hH (p := 21) (by decide) rfl
  obtain ⟨w2, b2, -, -⟩ := bA60 hH (p := 22) (by decide) rfl
  obtain ⟨w3, b3, -, -⟩ := bA60 hH (p := 23) (by decide) rfl
  obtain ⟨w4, b4, -, -⟩ := bA60 hH (p := 24) (by decide) rfl
  obtain ⟨fo, a9, fb⟩ := bA60B hH (p := 25) (by decide) rfl
  obtain ⟨ow, a10⟩ := bA60L hH (p := 26) (by decide) rfl
  refine ⟨((fun j => match j with | 0 => x0 | 1 => x1 | 7 => x7 | 8 => x8 | 9 => x9 | 10 => x10 | 11 => x11 | _ => 0), (fun j => match j with | 2 => x2 | 3 => x3 | 4 => x4 | 5 => x5 | 6 => x6 | _ => 0), so, sh, (fun k => match k with | 0 => w0 | 1 => w1 | 2 => w2 | 3 => w3 | _ => w4), fo, ow), ⟨hf, a1, a2, fx, fun k hk => ?_, a9, a10⟩, fun k hk => i_01 (fb k hk).1 (fb k hk).2⟩
  match k, hk with
  | 0, _ => exact b0
  | 1, _ => exact b1
  | 2, _ => exact b2
  | 3, _ => exact b3
  | 4, _ => exact b4
  | k + 5, hk => exact absurd hk (by omega)
theorem FC_at27 {h : sHp} (hH : bH h) (fx : fxR h 27) : ∃ c : CF, FC h 27 c ∧ (∀ k, k < 5 → c.2.2.2.2.2.1 k = 0 ∨ c.2.2.2.2.2.1 k = 1) := by
  obtain ⟨fs, hf, hl, ht⟩ := bFldK hH (p := 27) (by decide) rfl
  obtain ⟨v0, e0, t0⟩ := ht 0 _ rfl
  obtain ⟨x0, rfl, -, -⟩ := bT_int t0
  obtain ⟨v1, e1, t1⟩ := ht 1 _ rfl
  obtain ⟨x1, rfl, -, -⟩ := bT_int t1
  obtain ⟨v2, e2, t2⟩ := ht 2 _ rfl
  obtain ⟨x2, rfl⟩ := t2
  obtain ⟨v3, e3, t3⟩ := ht 3 _ rfl
  obtain ⟨x3, rfl⟩ := t3
  obtain ⟨v4, e4, t4⟩ := ht 4 _ rfl
  obtain ⟨x4, rfl⟩ := t4
  obtain ⟨v5, e5, t5⟩ := ht 5 _ rfl
  obtain ⟨x5, rfl⟩ := t5
  obtain ⟨v6, e6, t6⟩ := ht 6 _ rfl
  obtain ⟨x6, rfl⟩ := t6
  obtain ⟨v7, e7, t7⟩ := ht 7 _ rfl
  obtain ⟨x7, rfl, -, -⟩ := bT_int t7
  obtain ⟨v8, e8, t8⟩ := ht 8 _ rfl
  obtain ⟨x8, rfl, -, -⟩ := bT_int t8
  obtain ⟨v9, e9, t9⟩ := ht 9 _ rfl
  obtain ⟨x9, rfl, -, -⟩ := bT_int t9
  obtain ⟨v10, e10, t10⟩ := ht 10 _ rfl
  obtain ⟨x10, rfl, -, -⟩ := bT_int t10
  obtain ⟨v11, e11, t11⟩ := ht 11 _ rfl
  obtain ⟨x11, rfl, -, -⟩ := bT_int t11
  obtain ⟨v12, e12, t12⟩ := ht 12 _ rfl
  have r12 := bT_one (by decide) (by decide +kernel) t12
  subst r12
  obtain ⟨v13, e13, t13⟩ := ht 13 _ rfl
  have r13 := bT_one (by decide) (by decide +kernel) t13
  subst r13
  obtain ⟨v14, e14, t14⟩ := ht 14 _ rfl
  have r14 := bT_one (by decide) (by decide +kernel) t14
  subst r14
  obtain ⟨v15, e15, t15⟩ := ht 15 _ rfl
  have r15 := bT_one (by decide) (by decide +kernel) t15
  subst r15
  obtain ⟨v16, e16, t16⟩ := ht 16 _ rfl
  have r16 := bT_one (by decide) (by decide +kernel) t16
  subst r16
  have e : fs = [.int x0, .int x1, .long x2, .long x3, .long x4, .long x5, .long x6, .int x7, .int x8, .int x9, .int x10, .int x11, .ref 28, .ref 29, .ref 30, .ref 36, .ref 37] := List.ext_getElem? (fun j => match j with
    | 0 => e0
    | 1 => e1
    | 2 => e2
    | 3 => e3
    | 4 => e4
    | 5 => e5
    | 6 => e6
    | 7 => e7
    | 8 => e8
    | 9 => e9
    | 10 => e10
    | 11 => e11
    | 12 => e12
    | 13 => e13
    | 14 => e14
    | 15 => e15
    | 16 => e16
    | n + 17 => by rw [List.getElem?_eq_none (by rw [hl]; show 17 ≤ n + 17; omega)]; rfl)
  subst e
  obtain ⟨so, a1⟩ := bA60L hH (p := 28) (by decide) rfl
  obtain ⟨sh, a2, -, -⟩ := bA60 hH (p := 29) (by decide) rfl
  obtain ⟨w0, b0, -, -⟩ := bA60 hH (p := 31) (by decide) rfl
  obtain ⟨w1, b1, -, -⟩ := bA60 hH (p := 32) (by decide) rfl
  obtain ⟨w2, b2, -, -⟩ := bA60 hH (p := 33) (by decide) rfl
  obtain ⟨w3, b3, -, -⟩ := bA60 hH (p := 34) (by decide) rfl
  obtain ⟨w4, b4, -, -⟩ := bA60 hH (p := 35) (by decide) rfl
  obtain ⟨fo, a9, fb⟩ := bA60B hH (p := 36) (by decide) rfl
  obtain ⟨ow, a10⟩ := bA60L hH (p := 37) (by decide) rfl
  refine ⟨((fun j => match j with | 0 => x0 | 1 => x1 | 7 => x7 | 8 => x8 | 9 => x9 | 10 => x10 | 11 => x11 | _ => 0), (fun j => match j with | 2 => x2 | 3 => x3 | 4 => x4 | 5 => x5 | 6 => x6 | _ => 0), so, sh, (fun k => match k with | 0 => w0 | 1 => w1 | 2 => w2 | 3 => w3 | _ => w4), fo, ow), ⟨hf, a1, a2, fx, fun k hk => ?_, a9, a10⟩, fun k hk => i_01 (fb k hk).1 (fb k hk).2⟩
  match k, hk with
  | 0, _ => exact b0
  | 1, _ => exact b1
  | 2, _ => exact b2
  | 3, _ => exact b3
  | 4, _ => exact b4
  | k + 5, hk => exact absurd hk (by omega)
theorem FC_ext5 {h : sHp} {I : Nat → Int32} {G : Nat → Int64} (hH : bH h) (hf : h[5]? = some (fO 5 I G)) (fx : fxR h 5) : ∃ R, FC h 5 (I, G, R) ∧ (∀ k, k < 5 → R.2.2.2.1 k = 0 ∨ R.2.2.2.1 k = 1) := by
  obtain ⟨so, a1⟩ := bA60L hH (p := 6) (by decide) rfl
  obtain ⟨sh, a2, -, -⟩ := bA60 hH (p := 7) (by decide) rfl
  obtain ⟨w0, b0, -, -⟩ := bA60 hH (p := 9) (by decide) rfl
  obtain ⟨w1, b1, -, -⟩ := bA60 hH (p := 10) (by decide) rfl
  obtain ⟨w2, b2, -, -⟩ := bA60 hH (p := 11) (by decide) rfl
  obtain ⟨w3, b3, -, -⟩ := bA60 hH (p := 12) (by decide) rfl
  obtain ⟨w4, b4, -, -⟩ := bA60 hH (p := 13) (by decide) rfl
  obtain ⟨fo, a9, fb⟩ := bA60B hH (p := 14) (by decide) rfl
  obtain ⟨ow, a10⟩ := bA60L hH (p := 15) (by decide) rfl
  refine ⟨(so, sh, (fun k => match k with | 0 => w0 | 1 => w1 | 2 => w2 | 3 => w3 | _ => w4), fo, ow), ⟨hf, a1, a2, fx, fun k hk => ?_, a9, a10⟩, fun k hk => i_01 (fb k hk).1 (fb k hk).2⟩
  match k, hk with
  | 0, _ => exact b0
  | 1, _ => exact b1
  | 2, _ => exact b2
  | 3, _ => exact b3
  | 4, _ => exact b4
  | k + 5, hk => exact absurd hk (by omega)
theorem FC_ext16 {h : sHp} {I : Nat → Int32} {G : Nat → Int64} (hH : bH h) (hf : h[16]? = some (fO 16 I G)) (fx : fxR h 16) : ∃ R, FC h 16 (I, G, R) ∧ (∀ k, k < 5 → R.2.2.2.1 k = 0 ∨ R.2.2.2.1 k = 1) := by
  obtain ⟨so, a1⟩ := bA60L hH (p := 17) (by decide) rfl
  obtain ⟨sh, a2, -, -⟩ := bA60 hH (p := 18) (by decide) rfl
  obtain ⟨w0, b0, -, -⟩ := bA60 hH (p := 20) (by decide) rfl
  obtain ⟨w1, b1, -, -⟩ := bA60 hH (p := 21) (by decide) rfl
  obtain ⟨w2, b2, -, -⟩ := bA60 hH (p := 22) (by decide) rfl
  obtain ⟨w3, b3, -, -⟩ := bA60 hH (p := 23) (by decide) rfl
  obtain ⟨w4, b4, -, -⟩ := bA60 hH (p := 24) (by decide) rfl
  obtain ⟨fo, a9, fb⟩ := bA60B hH (p := 25) (by decide) rfl
  obtain ⟨ow, a10⟩ := bA60L hH (p := 26) (by decide) rfl
  refine ⟨(so, sh, (fun k => match k with | 0 => w0 | 1 => w1 | 2 => w2 | 3 => w3 | _ => w4), fo, ow), ⟨hf, a1, a2, fx, fun k hk => ?_, a9, a10⟩, fun k hk => i_01 (fb k hk).1 (fb k hk).2⟩
  match k, hk with
  | 0, _ => exact b0
  | 1, _ => exact b1
  | 2, _ => exact b2
  | 3, _ => exact b3
  | 4, _ => exact b4
  | k + 5, hk => exact absurd hk (by omega)
theorem FC_ext27 {h : sHp} {I : Nat → Int32} {G : Nat → Int64} (hH : bH h) (hf : h[27]? = some (fO 27 I G)) (fx : fxR h 27) : ∃ R, FC h 27 (I, G, R) ∧ (∀ k, k < 5 → R.2.2.2.1 k = 0 ∨ R.2.2.2.1 k = 1) := by
  obtain ⟨so, a1⟩ := bA60L hH (p := 28) (by decide) rfl
  obtain ⟨sh, a2, -, -⟩ := bA60 hH (p := 29) (by decide) rfl
  obtain ⟨w0, b0, -, -⟩ := bA60 hH (p := 31) (by decide) rfl
  obtain ⟨w1, b1, -, -⟩ := bA60 hH (p := 32) (by decide) rfl
  obtain ⟨w2, b2, -, -⟩ := bA60 hH (p := 33) (by decide) rfl
  obtain ⟨w3, b3, -, -⟩ := bA60 hH (p := 34) (by decide) rfl
  obtain ⟨w4, b4, -, -⟩ := bA60 hH (p := 35) (by decide) rfl
  obtain ⟨fo, a9, fb⟩ := bA60B hH (p := 36) (by decide) rfl
  obtain ⟨ow, a10⟩ := bA60L hH (p := 37) (by decide) rfl
  refine ⟨(so, sh, (fun k => match k with | 0 => w0 | 1 => w1 | 2 => w2 | 3 => w3 | _ => w4), fo, ow), ⟨hf, a1, a2, fx, fun k hk => ?_, a9, a10⟩, fun k hk => i_01 (fb k hk).1 (fb k hk).2⟩
  match k, hk with
  | 0, _ => exact b0
  | 1, _ => exact b1
  | 2, _ => exact b2
  | 3, _ => exact b3
  | 4, _ => exact b4
  | k + 5, hk => exact absurd hk (by omega)
theorem MC_ext {h : sHp} {J : Nat → Int32} (hH : bH h) (hf : h[60]? = some (mO J)) : ∃ R, MC h (J, R) := by
  obtain ⟨so, a0, -, -⟩ := bA60 hH (p := 62) (by decide) rfl
  obtain ⟨ow, a1, -, -⟩ := bA60 hH (p := 63) (by decide) rfl
  obtain ⟨sh, a2, -, -⟩ := bA60 hH (p := 64) (by decide) rfl
  obtain ⟨fo, a3, -, -⟩ := bA60 hH (p := 65) (by decide) rfl
  obtain ⟨va, a4, -, -⟩ := bA60 hH (p := 66) (by decide) rfl
  exact ⟨(so, ow, sh, fo, va), hf, a0, a1, a2, a3, a4⟩
theorem MC_of {h : sHp} (hH : bH h) : ∃ m : MF, MC h m := by
  obtain ⟨fs, hf, hl, ht⟩ := bFldK hH (p := 60) (by decide) rfl
  obtain ⟨v0, e0, t0⟩ := ht 0 _ rfl
  obtain ⟨x0, rfl, -, -⟩ := bT_int t0
  obtain ⟨v1, e1, t1⟩ := ht 1 _ rfl
  obtain ⟨x1, rfl, -, -⟩ := bT_int t1
  obtain ⟨v2, e2, t2⟩ := ht 2 _ rfl
  obtain ⟨x2, rfl, -, -⟩ := bT_int t2
  obtain ⟨v3, e3, t3⟩ := ht 3 _ rfl
  obtain ⟨x3, rfl, -, -⟩ := bT_int t3
  obtain ⟨v4, e4, t4⟩ := ht 4 _ rfl
  obtain ⟨x4, rfl, -, -⟩ := bT_int t4
  obtain ⟨v5, e5, t5⟩ := ht 5 _ rfl
  obtain ⟨x5, rfl, -, -⟩ := bT_int t5
  obtain ⟨v6, e6, t6⟩ := ht 6 _ rfl
  obtain ⟨x6, rfl, -, -⟩ := bT_int t6
  obtain ⟨v7, e7, t7⟩ := ht 7 _ rfl
  obtain ⟨x7, rfl, -, -⟩ := bT_int t7
  obtain ⟨v8, e8, t8⟩ := ht 8 _ rfl
  have r8 := bT_one (by decide) (by decide +kernel) t8
  subst r8
  obtain ⟨v9, e9, t9⟩ := ht 9 _ rfl
  have r9 := bT_one (by decide) (by decide +kernel) t9
  subst r9
  obtain ⟨v10, e10, t10⟩ := ht 10 _ rfl
  have r10 := bT_one (by decide) (by decide +kernel) t10
  subst r10
  obtain ⟨v11, e11, t11⟩ := ht 11 _ rfl
  have r11 := bT_one (by decide) (by decide +kernel) t11
  subst r11
  obtain ⟨v12, e12, t12⟩ := ht 12 _ rfl
  have r12 := bT_one (by decide) (by decide +kernel) t12
  subst r12
  obtain ⟨v13, e13, t13⟩ := ht 13 _ rfl
  have r13 := bT_one (by decide) (by decide +kernel) t13
  subst r13
  obtain ⟨v14, e14, t14⟩ := ht 14 _ rfl
  have r14 := bT_one (by decide) (by decide +kernel) t14
  subst r14
  obtain ⟨v15, e15, t15⟩ := ht 15 _ rfl
  have r15 := bT_one (by decide) (by decide +kernel) t15
  subst r15
  obtain ⟨v16, e16, t16⟩ := ht 16 _ rfl
  have r16 := bT_one (by decide) (by decide +kernel) t16
  subst r16
  obtain ⟨v17, e17, t17⟩ := ht 17 _ rfl
  have r17 := bT_one (by decide) (by decide +kernel) t17
  subst r17
  obtain ⟨v18, e18, t18⟩ := ht 18 _ rfl
  have r18 := bT_one (by decide) (by decide +kernel) t18
  subst r18
  obtain ⟨v19, e19, t19⟩ := ht 19 _ rfl
  have r19 := bT_one (by decide) (by decide +kernel) t19
  subst r19
  obtain ⟨v20, e20, t20⟩ := ht 20 _ rfl
  have r20 := bT_one (by decide) (by decide +kernel) t20
  subst r20
  obtain ⟨v21, e21, t21⟩ := ht 21 _ rfl
  obtain ⟨x21, rfl, -, -⟩ := bT_int t21
  obtain ⟨v22, e22, t22⟩ := ht 22 _ rfl
  obtain ⟨x22, rfl, -, -⟩ := bT_int t22
  obtain ⟨v23, e23, t23⟩ := ht 23 _ rfl
  obtain ⟨x23, rfl, -, -⟩ := bT_int t23
  obtain ⟨v24, e24, t24⟩ := ht 24 _ rfl
  obtain ⟨x24, rfl, -, -⟩ := bT_int t24
  obtain ⟨v25, e25, t25⟩ := ht 25 _ rfl
  obtain ⟨x25, rfl, -, -⟩ := bT_int t25
  obtain ⟨v26, e26, t26⟩ := ht 26 _ rfl
  have r26 := bT_one (by decide) (by decide +kernel) t26
  subst r26
  obtain ⟨v27, e27, t27⟩ := ht 27 _ rfl
  have r27 := bT_one (by decide) (by decide +kernel) t27
  subst r27
  obtain ⟨v28, e28, t28⟩ := ht 28 _ rfl
  obtain ⟨x28, rfl, -, -⟩ := bT_int t28
  obtain ⟨v29, e29, t29⟩ := ht 29 _ rfl
  have r29 := bT_one (by decide) (by decide +kernel) t29
  subst r29
  obtain ⟨v30, e30, t30⟩ := ht 30 _ rfl
  have r30 := bT_one (by decide) (by decide +kernel) t30
  subst r30
  obtain ⟨v31, e31, t31⟩ := ht 31 _ rfl
  obtain ⟨x31, rfl, -, -⟩ := bT_int t31
  obtain ⟨v32, e32, t32⟩ := ht 32 _ rfl
  obtain ⟨x32, rfl, -, -⟩ := bT_int t32
  obtain ⟨v33, e33, t33⟩ := ht 33 _ rfl
  obtain ⟨x33, rfl, -, -⟩ := bT_int t33
  obtain ⟨v34, e34, t34⟩ := ht 34 _ rfl
  obtain ⟨x34, rfl, -, -⟩ := bT_int t34
  obtain ⟨v35, e35, t35⟩ := ht 35 _ rfl
  have r35 := bT_one (by decide) (by decide +kernel) t35
  subst r35
  obtain ⟨v36, e36, t36⟩ := ht 36 _ rfl
  obtain ⟨x36, rfl, -, -⟩ := bT_int t36
  obtain ⟨v37, e37, t37⟩ := ht 37 _ rfl
  obtain ⟨x37, rfl, -, -⟩ := bT_int t37
  have e : fs = [.int x0, .int x1, .int x2, .int x3, .int x4, .int x5, .int x6, .int x7, .ref 61, .ref 62, .ref 63, .ref 64, .ref 65, .ref 66, .ref 67, .ref 68, .ref 69, .ref 70, .ref 71, .ref 72, .ref 73, .int x21, .int x22, .int x23, .int x24, .int x25, .ref 74, .ref 75, .int x28, .ref 76, .ref 77, .int x31, .int x32, .int x33, .int x34, .ref 78, .int x36, .int x37] := List.ext_getElem? (fun j => match j with
    | 0 => e0
    | 1 => e1
    | 2 => e2
    | 3 => e3
    | 4 => e4
    | 5 => e5
    | 6 => e6
    | 7 => e7
    | 8 => e8
    | 9 => e9
    | 10 => e10
    | 11 => e11
    | 12 => e12
    | 13 => e13
    | 14 => e14
    | 15 => e15
    | 16 => e16
    | 17 => e17
    | 18 => e18
    | 19 => e19
    | 20 => e20
    | 21 => e21
    | 22 => e22
    | 23 => e23
    | 24 => e24
    | 25 => e25
    | 26 => e26
    | 27 => e27
    | 28 => e28
    | 29 => e29
    | 30 => e30
    | 31 => e31
    | 32 => e32
    | 33 => e33
    | 34 => e34
    | 35 => e35
    | 36 => e36
    | 37 => e37
    | n + 38 => by rw [List.getElem?_eq_none (by rw [hl]; show 38 ≤ n + 38; omega)]; rfl)
  subst e
  obtain ⟨so, a0, -, -⟩ := bA60 hH (p := 62) (by decide) rfl
  obtain ⟨ow, a1, -, -⟩ := bA60 hH (p := 63) (by decide) rfl
  obtain ⟨sh, a2, -, -⟩ := bA60 hH (p := 64) (by decide) rfl
  obtain ⟨fo, a3, -, -⟩ := bA60 hH (p := 65) (by decide) rfl
  obtain ⟨va, a4, -, -⟩ := bA60 hH (p := 66) (by decide) rfl
  exact ⟨((fun j => match j with | 0 => x0 | 1 => x1 | 2 => x2 | 3 => x3 | 4 => x4 | 5 => x5 | 6 => x6 | 7 => x7 | 21 => x21 | 22 => x22 | 23 => x23 | 24 => x24 | 25 => x25 | 28 => x28 | 31 => x31 | 32 => x32 | 33 => x33 | 34 => x34 | 36 => x36 | 37 => x37 | _ => 0), so, ow, sh, fo, va), hf, a0, a1, a2, a3, a4⟩
theorem WD_of {h : sHp} (hH : bH h) : ∃ wd, h[73]? = some (.inl (0, 42, .inl wd)) ∧ WD wd := by
  obtain ⟨wd, a0, -, a2⟩ := bA60 hH (p := 73) (by decide) rfl
  refine ⟨wd, a0, fun i hi => ?_⟩
  have key : ∀ i, i < 42 → ([115, 105, 122, 101, 32, 0, 115, 111, 105, 108, 32, 0, 114, 111, 97, 100, 32, 0, 119, 101, 108, 108, 32, 0, 111, 97, 107, 32, 0, 115, 109, 97, 108, 108, 32, 0, 104, 101, 105, 114, 32, 0] : List Int)[i]? = some (wdL.getD i 0) := by decide
  exact a2 i _ (key i hi)
/-! ===== acts that may be ===== -/
def okPl (n : Nat) (what v : Int) : Prop := (what = 0 ∧ 0 ≤ v ∧ v ≤ 3) ∨ ((what = 1 ∨ what = 2) ∧ (v = -1 ∨ (0 ≤ v ∧ v < (n : Int)))) ∨ (what = 3 ∧ 0 ≤ v ∧ v ≤ 20)
def actOk (s : Sg) (a : Act) : Prop := match a with
  | (0, w, hh, _) => 2 ≤ w ∧ w ≤ 8 ∧ 2 ≤ hh ∧ hh ≤ 8
  | (1, v, fr, to) => v < 6 ∧ fr ≤ to ∧ to < s.1 * s.2.1
  | (2, k, v, _) => k < 4 ∧ v < 100 ∧ okPl (s.1 * s.2.1) k v
  | (3, share, _, _) => 1 ≤ share ∧ share ≤ 9 ∧ s.2.2 < 5
  | (_, i, v, x) => i < s.2.2 ∧ v < 6 ∧ x < 100
def actsOk : Sg → List Act → Prop
  | _, [] => True
  | s, a :: as => actOk s a ∧ actsOk (sgDo s a) as
theorem acts_app : ∀ {as bs : List Act} {s : Sg}, actsOk s as → actsOk (as.foldl sgDo s) bs → actsOk s (as ++ bs) := by
  intro as
  induction as with
  | nil => intro bs s _ h; exact h
  | cons a as ih => intro bs s h g; exact ⟨h.1, ih h.2 g⟩
theorem wrt_ok {T : Nat → Int32} {E : Nat} : ∀ {f v p : Nat} {as : List Act} {p2 : Nat} {s : Sg}, wrtS T E f v p = some (as, p2) → E < s.2.2 → v + f ≤ 6 → actsOk s as ∧ as.foldl sgDo s = s := by
  intro f
  induction f with
  | zero => intro v p as p2 s h _ _; cases h; exact ⟨trivial, rfl⟩
  | succ f ih =>
    intro v p as p2 s h hE hv
    unfold wrtS at h
    cases h1 : nxtS T p 0 99 with
    | none => rw [h1] at h; cases h
    | some xp =>
      obtain ⟨x, p'⟩ := xp
      rw [h1] at h
      have b := nxtS_le h1
      dsimp only at h
      cases h2 : wrtS T E f (v + 1) p' with
      | none => rw [h2] at h; cases h
      | some ap =>
        obtain ⟨as', p''⟩ := ap
        rw [h2] at h
        cases h
        have k := ih (s := s) h2 hE (by omega)
        exact ⟨⟨⟨hE, by omega, by omega⟩, k.1⟩, k.2⟩
theorem itm_ok {T : Nat → Int32} {p p2 : Nat} {as : List Act} {s : Sg} (h : itmS T p s = some (as, p2)) (hs : s.1 * s.2.1 ≤ 64) : actsOk s as := by
  have plc : ∀ {p1 k : Nat} {lo hi : Int}, k ≤ 3 → (∀ v : Nat, (v : Int) ≤ hi → okPl (s.1 * s.2.1) k v) → plcS T p1 k lo hi = some (as, p2) → actsOk s as := by
    intro p1 k lo hi hk hok h
    unfold plcS at h
    cases h1 : nxtS T p1 lo hi with
    | none => rw [h1] at h; cases h
    | some vp =>
      obtain ⟨x, p'⟩ := vp
      have b := nxtS_le h1
      rw [h1] at h
      cases h
      exact ⟨⟨by omega, by omega, hok _ (by omega)⟩, trivial⟩
  unfold itmS at h
  cases hw : wdS T p (if s.2.2 < 5 then 7 else 6) 0 with
  | none => rw [hw] at h; cases h
  | some v =>
    rw [hw] at h
    have vl := wdS_lt hw
    have v7 : v < 7 := by
      by_cases c5 : s.2.2 < 5
      · rw [if_pos c5] at vl; omega
      · rw [if_neg c5] at vl; omega
    have h6 : v = 6 → s.2.2 < 5 := fun z => by
      by_cases c5 : s.2.2 < 5
      · exact c5
      · rw [if_neg c5] at vl; omega
    match v, v7, h6, h with
    | 0, _, _, h =>
      have h : sizS T (p + wlS 0) = some (as, p2) := h
      unfold sizS at h
      cases h1 : nxtS T (p + wlS 0) 2 8 with
      | none => rw [h1] at h; cases h
      | some vp =>
        obtain ⟨w, p1⟩ := vp
        rw [h1] at h
        have b1 := nxtS_le h1
        dsimp only at h
        cases h2 : nxtS T p1 2 8 with
        | none => rw [h2] at h; cases h
        | some vp2 =>
          obtain ⟨hh, p3⟩ := vp2
          rw [h2] at h
          have b2 := nxtS_le h2
          cases h
          exact ⟨⟨by omega, by omega, by omega, by omega⟩, trivial⟩
    | 1, _, _, h =>
      have h : soiS T (p + wlS 1) (((s.1 * s.2.1 : Nat) : Int) - 1) = some (as, p2) := h
      unfold soiS at h
      cases h1 : nxtS T (p + wlS 1) 0 5 with
      | none => rw [h1] at h; cases h
      | some vp =>
        obtain ⟨v, p1⟩ := vp
        rw [h1] at h
        have b1 := nxtS_le h1
        dsimp only at h
        cases h2 : nxtS T p1 0 (((s.1 * s.2.1 : Nat) : Int) - 1) with
        | none => rw [h2] at h; cases h
        | some vp2 =>
          obtain ⟨fr, p3⟩ := vp2
          rw [h2] at h
          dsimp only at h
          cases h3 : nxtS T p3 fr (((s.1 * s.2.1 : Nat) : Int) - 1) with
          | none => rw [h3] at h; cases h
          | some vp3 =>
            obtain ⟨to, p4⟩ := vp3
            rw [h3] at h
            have b3 := nxtS_le h3
            cases h
            exact ⟨⟨by omega, by omega, by omega⟩, trivial⟩
    | 2, _, _, h => exact plc (k := 0) (by decide) (fun v hv => by unfold okPl; omega) h
    | 3, _, _, h => exact plc (k := 1) (by decide) (fun v hv => by unfold okPl; omega) h
    | 4, _, _, h => exact plc (k := 2) (by decide) (fun v hv => by unfold okPl; omega) h
    | 5, _, _, h => exact plc (k := 3) (by decide) (fun v hv => by unfold okPl; omega) h
    | 6, _, h6, h =>
      have h : heiS T (p + wlS 6) s.2.2 = some (as, p2) := h
      unfold heiS at h
      cases h1 : nxtS T (p + wlS 6) 1 9 with
      | none => rw [h1] at h; cases h
      | some vp =>
        obtain ⟨share, p1⟩ := vp
        rw [h1] at h
        have b1 := nxtS_le h1
        dsimp only at h
        cases h2 : wrtS T s.2.2 6 0 p1 with
        | none => rw [h2] at h; cases h
        | some ap =>
          obtain ⟨as', p3⟩ := ap
          rw [h2] at h
          cases h
          exact ⟨⟨by omega, by omega, h6 rfl⟩, (wrt_ok (s := (s.1, s.2.1, s.2.2 + 1)) h2 (Nat.lt_succ_self _) (by decide)).1⟩
    | k + 7, z, _, _ => exact absurd z (by omega)
theorem its_ok {T : Nat → Int32} {n : Nat} : ∀ {f p K : Nat} {as : List Act} {c : CF} {s : Sg}, itsS T n f s p = some (K, as) → sgI c s → actsOk s as ∧ sgI (as.foldl cfDo c) (as.foldl sgDo s) := by
  intro f
  induction f with
  | zero => intro p K as c s h _; cases h
  | succ f ih =>
    intro p K as c s h q
    unfold itsS at h
    cases h1 : itmS T p s with
    | none => rw [h1] at h; cases h
    | some ap =>
      obtain ⟨bs, p1⟩ := ap
      rw [h1] at h
      have k1 := itm_ok h1 (sq_le q.2.2.2.2.1 q.2.2.2.2.2.2.1)
      have k2 := (sg_itm h1 q).1
      dsimp only at h
      by_cases c1 : n ≤ p1
      · rw [if_pos c1] at h
        cases h
        exact ⟨k1, k2⟩
      · rw [if_neg c1] at h
        by_cases c2 : T p1 = 59
        · rw [if_pos c2] at h
          cases h2 : itsS T n f (bs.foldl sgDo s) (p1 + 1) with
          | none => rw [h2] at h; cases h
          | some kb =>
            obtain ⟨k, ds⟩ := kb
            rw [h2] at h
            cases h
            have z := ih h2 k2
            refine ⟨acts_app k1 z.1, ?_⟩
            rw [List.foldl_append, List.foldl_append]
            exact z.2
        · rw [if_neg c2] at h
          cases h
end
