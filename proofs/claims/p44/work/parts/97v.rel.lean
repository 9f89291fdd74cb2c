/-! ===== refusal counts: what the reference counts in says, old, sure ===== -/
theorem s_says12z {d : Nat} {h : sHp} {J hd co R : Nat → Int32} {W H : Nat} {s k : Int32} (hd1 : 4 ≤ d) (hr : h[60]? = some (mO J)) (hR : h[61]? = some (rFc R)) (a4 : h[67]? = some (.inl (0, 8, .inl hd))) (g : gdM J W H) (a7 : h[70]? = some (.inl (0, 8, .inl co))) (h3 : ∀ S, S < 8 → hd S = 0 ∨ hd S = 1 ∨ hd S = 2) (hco : ∀ S, S < 8 → hd S = 2 → 0 ≤ (co S).toInt ∧ (co S).toInt < 7000) : sDo d 189 [.ref 60, .int s, .int k] h (fun r h' => ((¬ (0 ≤ s.toInt ∧ s.toInt < 8) ∨ (k.toInt < 0 ∨ 6 < k.toInt)) ∧ r = some (.int (-1)) ∧ h' = h.set 61 (rFc (bump R 1))) ∨ ((¬ (¬ (0 ≤ s.toInt ∧ s.toInt < 8) ∨ (k.toInt < 0 ∨ 6 < k.toInt))) ∧ ((hd s.toInt.toNat = 1 ∧ r = some (.int (-2)) ∧ h' = h.set 61 (rFc (bump R 2))) ∨ (hd s.toInt.toNat = 0 ∧ r = some (.int (-3)) ∧ h' = h.set 61 (rFc (bump R 3))) ∨ (hd s.toInt.toNat = 2 ∧ ((¬ isoK ((co s.toInt.toNat).toInt.toNat / 1000) k.toInt ∧ r = some (.int (-2)) ∧ h' = h.set 61 (rFc (bump R 2))) ∨ (isoK ((co s.toInt.toNat).toInt.toNat / 1000) k.toInt ∧ r = some (.int (tlS W (W * H) (co s.toInt.toNat).toInt.toNat k.toInt)))))))) := by
  refine sDo_of1 (nL := 5) (L := [some (.ref 60), some (.int s), some (.int k), none, none]) (by omega) rfl rfl ?_
  refine g_aload_n (i := 0) rfl rfl ?_
  refine g_iload_n (i := 1) rfl rfl ?_
  refine g_virt1 (Qc := fun r h' => h' = h ∧ (((0 ≤ s.toInt ∧ s.toInt < 8) ∧ r = some (.int 1)) ∨ (¬ (0 ≤ s.toInt ∧ s.toInt < 8) ∧ r = some (.int 0)))) rfl (by decide) rfl hr rfl (Nat.le_of_ble_eq_true rfl) (s_sh12z (by omega)) (fun r h hq9 => ?_)
  obtain ⟨rfl, ⟨c_1, rfl⟩ | ⟨c_1, rfl⟩⟩ := hq9
  · skip
    obtain ⟨S, hs⟩ : ∃ S : Nat, s.toInt = S := ⟨s.toInt.toNat, by omega⟩
    rw [show s.toInt.toNat = S by omega]
    have k1 : (1 : Int32).toInt = 1 := rfl
    have k0 : (0 : Int32).toInt = 0 := rfl
    have k2 : (2 : Int32).toInt = 2 := rfl
    refine g_if_eq 18 rfl rfl (fun hc => absurd hc (by decide)) (fun _ => ?_)
    refine g_iload_n (i := 2) rfl rfl ?_
    have k_3 : (0 : Int32).toInt = 0 := rfl
    refine g_if_lt 18 rfl rfl (fun c_2 => ?_) (fun c_2 => ?_)
    · skip
      rw [i_lt, k_3] at c_2
      refine g_aload_n (i := 0) rfl rfl ?_
      refine g_iconst (n := (-1)) rfl ?_
      refine g_virt1 (Qc := fun r h' => r = some (.int (-1)) ∧ h' = h.set 61 (rFc (bump R 1))) rfl (by decide) rfl hr rfl (Nat.le_of_ble_eq_true rfl) (s_no2 (X := 1) (by omega) hr hR rfl (by decide)) (fun r h9 hq9 => ?_)
      obtain ⟨rfl, rfl⟩ := hq9
      refine g_ireturn (ty := .int) rfl rfl rfl ?_
      exact Or.inl ⟨by omega, rfl, rfl⟩
    · skip
      rw [i_lt, k_3] at c_2
      refine g_iload_n (i := 2) rfl rfl ?_
      refine g_bipush (n := 6) rfl ?_
      have k_5 : ((Int8.ofInt 6).toInt32).toInt = 6 := rfl
      refine g_icmp_le 24 rfl rfl (fun c_4 => ?_) (fun c_4 => ?_)
      · skip
        rw [i_le, k_5] at c_4
        refine g_aload_n (i := 0) rfl rfl ?_
        refine g_getfield (v := .ref 67) rfl hr (by decide) rfl ?_
        refine g_iload_n (i := 1) rfl rfl ?_
        refine g_iaload (n := 8) (f := hd) rfl a4 (i_in (by omega) (by omega)) ?_
        rw [i_nat hs]
        refine g_iconst (n := 1) rfl ?_
        have k_7 : (Int32.ofInt 1).toInt = 1 := rfl
        refine g_icmp_ne 41 rfl rfl (fun c_6 => ?_) (fun c_6 => ?_)
        · skip
          rw [i_eq, k_7] at c_6
          refine g_aload_n (i := 0) rfl rfl ?_
          refine g_getfield (v := .ref 67) rfl hr (by decide) rfl ?_
          refine g_iload_n (i := 1) rfl rfl ?_
          refine g_iaload (n := 8) (f := hd) rfl a4 (i_in (by omega) (by omega)) ?_
          rw [i_nat hs]
          refine g_if_ne 57 rfl rfl (fun c_8 => ?_) (fun c_8 => ?_)
          · skip
            rw [i_eq, k_3] at c_8
            refine g_aload_n (i := 0) rfl rfl ?_
            refine g_getfield (v := .ref 70) rfl hr (by decide) rfl ?_
            refine g_iload_n (i := 1) rfl rfl ?_
            have h2 : hd S = 2 := by
              rcases h3 S (by omega) with e | e | e
              · exfalso; have := congrArg Int32.toInt e; omega
              · exfalso; have := congrArg Int32.toInt e; omega
              · exact e
            obtain ⟨c0, c7⟩ := hco S (by omega) h2
            obtain ⟨C, hC⟩ : ∃ C : Nat, (co S).toInt = C := ⟨(co S).toInt.toNat, by omega⟩
            rw [show (co S).toInt.toNat = C by omega]
            have sd0 := fun k => s_sideOf12 (d := d - 1) (side := k) (by omega) hr g hC (by omega)
            refine g_iaload (n := 8) (f := co) rfl a7 (i_in (by omega) (by omega)) ?_
            rw [i_nat hs]
            refine g_istore_n (i := 3) (L1 := [some (.ref 60), some (.int s), some (.int k), some (.int (co S)), none]) rfl (Nat.le_of_ble_eq_true rfl) rfl ?_
            refine g_iload_n (i := 3) rfl rfl ?_
            refine g_sipush (n := 1000) rfl ?_
            have k_9 : ((Int16.ofInt 1000).toInt32).toInt = 1000 := rfl
            refine g_idiv rfl (by decide) ?_
            have t_10 : (((co S) / (Int16.ofInt 1000).toInt32)).toInt = ((C / 1000 : Nat) : Int) := n_div (X := C) (Y := 1000) hC (show _ = ((1000 : Nat) : Int) from k_9) (by omega)
            refine g_istore (i := 4) (L1 := [some (.ref 60), some (.int s), some (.int k), some (.int (co S)), some (.int ((co S) / (Int16.ofInt 1000).toInt32))]) rfl (Nat.le_of_ble_eq_true rfl) rfl ?_
            refine g_iload_n (i := 2) rfl rfl ?_
            refine g_if_eq 117 rfl rfl (fun c_11 => ?_) (fun c_11 => ?_)
            · skip
              rw [i_eq, k_3] at c_11
              refine g_iload_n (i := 2) rfl rfl ?_
              have hk : k.toInt = 0 ∨ k.toInt = 1 ∨ k.toInt = 2 ∨ k.toInt = 3 ∨ k.toInt = 4 ∨ k.toInt = 5 ∨ k.toInt = 6 := by omega
              have hi : isoK (C / 1000) k.toInt := by unfold isoK; omega
              have hab := dg_le (show C / 100 % 10 < 10 by omega) (show C / 10 % 10 < 10 by omega)
              rcases hk with hs2 | hs2 | hs2 | hs2 | hs2 | hs2 | hs2
              · skip
                refine g_tsIn 0 156 rfl (by omega) (by rw [hs2]; rfl) rfl rfl ?_
                refine g_aload_n (i := 0) rfl rfl ?_
                refine g_aload_n (i := 0) rfl rfl ?_
                refine g_iload_n (i := 3) rfl rfl ?_
                refine g_iconst (n := 0) rfl ?_
                refine g_virt2 (Qc := fun r h' => h' = h ∧ r = some (.long (sdS W (W * H) C 0))) rfl (by decide) rfl hr rfl (Nat.le_of_ble_eq_true rfl) (sd0 ((Int32.ofInt 0))) (fun r h hq9 => ?_)
                obtain ⟨rfl, rfl⟩ := hq9
                refine g_virt1 (Qc := fun r h' => h' = h ∧ r = some (.int (Int32.ofNat (cnt (sdS W (W * H) C 0))))) rfl (by decide) rfl hr rfl (Nat.le_of_ble_eq_true rfl) (s_manyE (by omega)) (fun r h hq9 => ?_)
                obtain ⟨rfl, rfl⟩ := hq9
                refine g_ireturn (ty := .int) rfl rfl rfl ?_
                exact Or.inr ⟨by omega, Or.inr (Or.inr ⟨h2, Or.inr ⟨hi, by unfold tlS; rw [if_neg (by omega), if_neg (by omega), if_neg (by omega), if_neg (by omega), if_neg (by omega)]⟩⟩)⟩
              · skip
                refine g_tsIn 1 167 rfl (by omega) (by rw [hs2]; rfl) rfl rfl ?_
                refine g_aload_n (i := 0) rfl rfl ?_
                refine g_aload_n (i := 0) rfl rfl ?_
                refine g_iload_n (i := 3) rfl rfl ?_
                refine g_iconst (n := 1) rfl ?_
                refine g_virt2 (Qc := fun r h' => h' = h ∧ r = some (.long (sdS W (W * H) C 1))) rfl (by decide) rfl hr rfl (Nat.le_of_ble_eq_true rfl) (sd0 ((Int32.ofInt 1))) (fun r h hq9 => ?_)
                obtain ⟨rfl, rfl⟩ := hq9
                refine g_virt1 (Qc := fun r h' => h' = h ∧ r = some (.int (Int32.ofNat (cnt (sdS W (W * H) C 1))))) rfl (by decide) rfl hr rfl (Nat.le_of_ble_eq_true rfl) (s_manyE (by omega)) (fun r h hq9 => ?_)
                obtain ⟨rfl, rfl⟩ := hq9
                refine g_ireturn (ty := .int) rfl rfl rfl ?_
                exact Or.inr ⟨by omega, Or.inr (Or.inr ⟨h2, Or.inr ⟨hi, by unfold tlS; rw [if_pos hs2]⟩⟩)⟩
              · skip
                refine g_tsIn 2 213 rfl (by omega) (by rw [hs2]; rfl) rfl rfl ?_
                refine g_iload_n (i := 3) rfl rfl ?_
                refine g_bipush (n := 10) rfl ?_
                have k_12 : ((Int8.ofInt 10).toInt32).toInt = 10 := rfl
                refine g_idiv rfl (by decide) ?_
                have t_13 : (((co S) / (Int8.ofInt 10).toInt32)).toInt = ((C / 10 : Nat) : Int) := n_div (X := C) (Y := 10) hC (show _ = ((10 : Nat) : Int) from k_12) (by omega)
                refine g_bipush (n := 10) rfl ?_
                refine g_irem rfl (by decide) ?_
                have t_14 : ((((co S) / (Int8.ofInt 10).toInt32) - ((co S) / (Int8.ofInt 10).toInt32) / (Int8.ofInt 10).toInt32 * (Int8.ofInt 10).toInt32)).toInt = (((C / 10) % 10 : Nat) : Int) := n_rem (X := C / 10) (Y := 10) t_13 (show _ = ((10 : Nat) : Int) from k_12) (by omega)
                refine g_ireturn (ty := .int) rfl rfl rfl ?_
                have hb1 := n_rem (n_div hC (show (Int8.ofInt 10).toInt32.toInt = ((10 : Nat) : Int) from rfl) (by decide)) (show (Int8.ofInt 10).toInt32.toInt = ((10 : Nat) : Int) from rfl) (by decide)
                have ha1 := n_rem (n_div hC (show (Int8.ofInt 100).toInt32.toInt = ((100 : Nat) : Int) from rfl) (by decide)) (show (Int8.ofInt 10).toInt32.toInt = ((10 : Nat) : Int) from rfl) (by decide)
                exact Or.inr ⟨by omega, Or.inr (Or.inr ⟨h2, Or.inr ⟨hi, by unfold tlS; rw [if_neg (by omega), if_pos (Or.inl hs2)]; exact congrArg (fun z => some (Value.int z)) (of_n hb1 (by omega))⟩⟩)⟩
              · skip
                refine g_tsIn 3 178 rfl (by omega) (by rw [hs2]; rfl) rfl rfl ?_
                refine g_aload_n (i := 0) rfl rfl ?_
                refine g_aload_n (i := 0) rfl rfl ?_
                refine g_iload_n (i := 3) rfl rfl ?_
                refine g_iconst (n := 2) rfl ?_
                refine g_virt2 (Qc := fun r h' => h' = h ∧ r = some (.long (sdS W (W * H) C 2))) rfl (by decide) rfl hr rfl (Nat.le_of_ble_eq_true rfl) (sd0 ((Int32.ofInt 2))) (fun r h hq9 => ?_)
                obtain ⟨rfl, rfl⟩ := hq9
                refine g_virt1 (Qc := fun r h' => h' = h ∧ r = some (.int (Int32.ofNat (cnt (sdS W (W * H) C 2))))) rfl (by decide) rfl hr rfl (Nat.le_of_ble_eq_true rfl) (s_manyE (by omega)) (fun r h hq9 => ?_)
                obtain ⟨rfl, rfl⟩ := hq9
                refine g_ireturn (ty := .int) rfl rfl rfl ?_
                exact Or.inr ⟨by omega, Or.inr (Or.inr ⟨h2, Or.inr ⟨hi, by unfold tlS; rw [if_neg (by omega), if_neg (by omega), if_pos hs2]⟩⟩)⟩
              · skip
                refine g_tsIn 4 189 rfl (by omega) (by rw [hs2]; rfl) rfl rfl ?_
                refine g_iload_n (i := 3) rfl rfl ?_
                refine g_bipush (n := 100) rfl ?_
                have k_15 : ((Int8.ofInt 100).toInt32).toInt = 100 := rfl
                refine g_idiv rfl (by decide) ?_
                have t_16 : (((co S) / (Int8.ofInt 100).toInt32)).toInt = ((C / 100 : Nat) : Int) := n_div (X := C) (Y := 100) hC (show _ = ((100 : Nat) : Int) from k_15) (by omega)
                refine g_bipush (n := 10) rfl ?_
                have k_17 : ((Int8.ofInt 10).toInt32).toInt = 10 := rfl
                refine g_irem rfl (by decide) ?_
                have t_18 : ((((co S) / (Int8.ofInt 100).toInt32) - ((co S) / (Int8.ofInt 100).toInt32) / (Int8.ofInt 10).toInt32 * (Int8.ofInt 10).toInt32)).toInt = (((C / 100) % 10 : Nat) : Int) := n_rem (X := C / 100) (Y := 10) t_16 (show _ = ((10 : Nat) : Int) from k_17) (by omega)
                refine g_ireturn (ty := .int) rfl rfl rfl ?_
                have hb1 := n_rem (n_div hC (show (Int8.ofInt 10).toInt32.toInt = ((10 : Nat) : Int) from rfl) (by decide)) (show (Int8.ofInt 10).toInt32.toInt = ((10 : Nat) : Int) from rfl) (by decide)
                have ha1 := n_rem (n_div hC (show (Int8.ofInt 100).toInt32.toInt = ((100 : Nat) : Int) from rfl) (by decide)) (show (Int8.ofInt 10).toInt32.toInt = ((10 : Nat) : Int) from rfl) (by decide)
                exact Or.inr ⟨by omega, Or.inr (Or.inr ⟨h2, Or.inr ⟨hi, by unfold tlS; rw [if_neg (by omega), if_neg (by omega), if_neg (by omega), if_pos hs2]; exact congrArg (fun z => some (Value.int z)) (of_n ha1 (by omega))⟩⟩)⟩
              · skip
                refine g_tsIn 5 197 rfl (by omega) (by rw [hs2]; rfl) rfl rfl ?_
                refine g_iload_n (i := 3) rfl rfl ?_
                refine g_bipush (n := 100) rfl ?_
                have k_19 : ((Int8.ofInt 100).toInt32).toInt = 100 := rfl
                refine g_idiv rfl (by decide) ?_
                have t_20 : (((co S) / (Int8.ofInt 100).toInt32)).toInt = ((C / 100 : Nat) : Int) := n_div (X := C) (Y := 100) hC (show _ = ((100 : Nat) : Int) from k_19) (by omega)
                refine g_bipush (n := 10) rfl ?_
                have k_21 : ((Int8.ofInt 10).toInt32).toInt = 10 := rfl
                refine g_irem rfl (by decide) ?_
                have t_22 : ((((co S) / (Int8.ofInt 100).toInt32) - ((co S) / (Int8.ofInt 100).toInt32) / (Int8.ofInt 10).toInt32 * (Int8.ofInt 10).toInt32)).toInt = (((C / 100) % 10 : Nat) : Int) := n_rem (X := C / 100) (Y := 10) t_20 (show _ = ((10 : Nat) : Int) from k_21) (by omega)
                refine g_iload_n (i := 3) rfl rfl ?_
                refine g_bipush (n := 10) rfl ?_
                refine g_idiv rfl (by decide) ?_
                have t_23 : (((co S) / (Int8.ofInt 10).toInt32)).toInt = ((C / 10 : Nat) : Int) := n_div (X := C) (Y := 10) hC (show _ = ((10 : Nat) : Int) from k_21) (by omega)
                refine g_bipush (n := 10) rfl ?_
                refine g_irem rfl (by decide) ?_
                have t_24 : ((((co S) / (Int8.ofInt 10).toInt32) - ((co S) / (Int8.ofInt 10).toInt32) / (Int8.ofInt 10).toInt32 * (Int8.ofInt 10).toInt32)).toInt = (((C / 10) % 10 : Nat) : Int) := n_rem (X := C / 10) (Y := 10) t_23 (show _ = ((10 : Nat) : Int) from k_21) (by omega)
                refine g_imul rfl ?_
                refine g_ireturn (ty := .int) rfl rfl rfl ?_
                have hb1 := n_rem (n_div hC (show (Int8.ofInt 10).toInt32.toInt = ((10 : Nat) : Int) from rfl) (by decide)) (show (Int8.ofInt 10).toInt32.toInt = ((10 : Nat) : Int) from rfl) (by decide)
                have ha1 := n_rem (n_div hC (show (Int8.ofInt 100).toInt32.toInt = ((100 : Nat) : Int) from rfl) (by decide)) (show (Int8.ofInt 10).toInt32.toInt = ((10 : Nat) : Int) from rfl) (by decide)
                exact Or.inr ⟨by omega, Or.inr (Or.inr ⟨h2, Or.inr ⟨hi, by unfold tlS; rw [if_neg (by omega), if_neg (by omega), if_neg (by omega), if_neg (by omega), if_pos hs2]; exact congrArg (fun z => some (Value.int z)) (of_n (n_mul ha1 hb1 (by omega)) (by omega))⟩⟩)⟩
              · skip
                refine g_tsOut 213 rfl (by omega) rfl ?_
                refine g_iload_n (i := 3) rfl rfl ?_
                refine g_bipush (n := 10) rfl ?_
                have k_25 : ((Int8.ofInt 10).toInt32).toInt = 10 := rfl
                refine g_idiv rfl (by decide) ?_
                have t_26 : (((co S) / (Int8.ofInt 10).toInt32)).toInt = ((C / 10 : Nat) : Int) := n_div (X := C) (Y := 10) hC (show _ = ((10 : Nat) : Int) from k_25) (by omega)
                refine g_bipush (n := 10) rfl ?_
                refine g_irem rfl (by decide) ?_
                have t_27 : ((((co S) / (Int8.ofInt 10).toInt32) - ((co S) / (Int8.ofInt 10).toInt32) / (Int8.ofInt 10).toInt32 * (Int8.ofInt 10).toInt32)).toInt = (((C / 10) % 10 : Nat) : Int) := n_rem (X := C / 10) (Y := 10) t_26 (show _ = ((10 : Nat) : Int) from k_25) (by omega)
                refine g_ireturn (ty := .int) rfl rfl rfl ?_
                have hb1 := n_rem (n_div hC (show (Int8.ofInt 10).toInt32.toInt = ((10 : Nat) : Int) from rfl) (by decide)) (show (Int8.ofInt 10).toInt32.toInt = ((10 : Nat) : Int) from rfl) (by decide)
                have ha1 := n_rem (n_div hC (show (Int8.ofInt 100).toInt32.toInt = ((100 : Nat) : Int) from rfl) (by decide)) (show (Int8.ofInt 10).toInt32.toInt = ((10 : Nat) : Int) from rfl) (by decide)
                exact Or.inr ⟨by omega, Or.inr (Or.inr ⟨h2, Or.inr ⟨hi, by unfold tlS; rw [if_neg (by omega), if_pos (Or.inr hs2)]; exact congrArg (fun z => some (Value.int z)) (of_n hb1 (by omega))⟩⟩)⟩
            · skip
              rw [i_eq, k_3] at c_11
              refine g_iload_n (i := 2) rfl rfl ?_
              refine g_iload (i := 4) rfl rfl ?_
              refine g_icmp_eq 117 rfl rfl (fun c_28 => ?_) (fun c_28 => ?_)
              · skip
                rw [i_eq, t_10] at c_28
                refine g_iload_n (i := 2) rfl rfl ?_
                have hk : k.toInt = 0 ∨ k.toInt = 1 ∨ k.toInt = 2 ∨ k.toInt = 3 ∨ k.toInt = 4 ∨ k.toInt = 5 ∨ k.toInt = 6 := by omega
                have hi : isoK (C / 1000) k.toInt := by unfold isoK; omega
                have hab := dg_le (show C / 100 % 10 < 10 by omega) (show C / 10 % 10 < 10 by omega)
                rcases hk with hs2 | hs2 | hs2 | hs2 | hs2 | hs2 | hs2
                · skip
                  refine g_tsIn 0 156 rfl (by omega) (by rw [hs2]; rfl) rfl rfl ?_
                  refine g_aload_n (i := 0) rfl rfl ?_
                  refine g_aload_n (i := 0) rfl rfl ?_
                  refine g_iload_n (i := 3) rfl rfl ?_
                  refine g_iconst (n := 0) rfl ?_
                  refine g_virt2 (Qc := fun r h' => h' = h ∧ r = some (.long (sdS W (W * H) C 0))) rfl (by decide) rfl hr rfl (Nat.le_of_ble_eq_true rfl) (sd0 ((Int32.ofInt 0))) (fun r h hq9 => ?_)
                  obtain ⟨rfl, rfl⟩ := hq9
                  refine g_virt1 (Qc := fun r h' => h' = h ∧ r = some (.int (Int32.ofNat (cnt (sdS W (W * H) C 0))))) rfl (by decide) rfl hr rfl (Nat.le_of_ble_eq_true rfl) (s_manyE (by omega)) (fun r h hq9 => ?_)
                  obtain ⟨rfl, rfl⟩ := hq9
                  refine g_ireturn (ty := .int) rfl rfl rfl ?_
                  exact Or.inr ⟨by omega, Or.inr (Or.inr ⟨h2, Or.inr ⟨hi, by unfold tlS; rw [if_neg (by omega), if_neg (by omega), if_neg (by omega), if_neg (by omega), if_neg (by omega)]⟩⟩)⟩
                · skip
                  refine g_tsIn 1 167 rfl (by omega) (by rw [hs2]; rfl) rfl rfl ?_
                  refine g_aload_n (i := 0) rfl rfl ?_
                  refine g_aload_n (i := 0) rfl rfl ?_
                  refine g_iload_n (i := 3) rfl rfl ?_
                  refine g_iconst (n := 1) rfl ?_
                  refine g_virt2 (Qc := fun r h' => h' = h ∧ r = some (.long (sdS W (W * H) C 1))) rfl (by decide) rfl hr rfl (Nat.le_of_ble_eq_true rfl) (sd0 ((Int32.ofInt 1))) (fun r h hq9 => ?_)
                  obtain ⟨rfl, rfl⟩ := hq9
                  refine g_virt1 (Qc := fun r h' => h' = h ∧ r = some (.int (Int32.ofNat (cnt (sdS W (W * H) C 1))))) rfl (by decide) rfl hr rfl (Nat.le_of_ble_eq_true rfl) (s_manyE (by omega)) (fun r h hq9 => ?_)
                  obtain ⟨rfl, rfl⟩ := hq9
                  refine g_ireturn (ty := .int) rfl rfl rfl ?_
                  exact Or.inr ⟨by omega, Or.inr (Or.inr ⟨h2, Or.inr ⟨hi, by unfold tlS; rw [if_pos hs2]⟩⟩)⟩
                · skip
                  refine g_tsIn 2 213 rfl (by omega) (by rw [hs2]; rfl) rfl rfl ?_
                  refine g_iload_n (i := 3) rfl rfl ?_
                  refine g_bipush (n := 10) rfl ?_
                  have k_29 : ((Int8.ofInt 10).toInt32).toInt = 10 := rfl
                  refine g_idiv rfl (by decide) ?_
                  have t_30 : (((co S) / (Int8.ofInt 10).toInt32)).toInt = ((C / 10 : Nat) : Int) := n_div (X := C) (Y := 10) hC (show _ = ((10 : Nat) : Int) from k_29) (by omega)
                  refine g_bipush (n := 10) rfl ?_
                  refine g_irem rfl (by decide) ?_
                  have t_31 : ((((co S) / (Int8.ofInt 10).toInt32) - ((co S) / (Int8.ofInt 10).toInt32) / (Int8.ofInt 10).toInt32 * (Int8.ofInt 10).toInt32)).toInt = (((C / 10) % 10 : Nat) : Int) := n_rem (X := C / 10) (Y := 10) t_30 (show _ = ((10 : Nat) : Int) from k_29) (by omega)
                  refine g_ireturn (ty := .int) rfl rfl rfl ?_
                  have hb1 := n_rem (n_div hC (show (Int8.ofInt 10).toInt32.toInt = ((10 : Nat) : Int) from rfl) (by decide)) (show (Int8.ofInt 10).toInt32.toInt = ((10 : Nat) : Int) from rfl) (by decide)
                  have ha1 := n_rem (n_div hC (show (Int8.ofInt 100).toInt32.toInt = ((100 : Nat) : Int) from rfl) (by decide)) (show (Int8.ofInt 10).toInt32.toInt = ((10 : Nat) : Int) from rfl) (by decide)
                  exact Or.inr ⟨by omega, Or.inr (Or.inr ⟨h2, Or.inr ⟨hi, by unfold tlS; rw [if_neg (by omega), if_pos (Or.inl hs2)]; exact congrArg (fun z => some (Value.int z)) (of_n hb1 (by omega))⟩⟩)⟩
                · skip
                  refine g_tsIn 3 178 rfl (by omega) (by rw [hs2]; rfl) rfl rfl ?_
                  refine g_aload_n (i := 0) rfl rfl ?_
                  refine g_aload_n (i := 0) rfl rfl ?_
                  refine g_iload_n (i := 3) rfl rfl ?_
                  refine g_iconst (n := 2) rfl ?_
                  refine g_virt2 (Qc := fun r h' => h' = h ∧ r = some (.long (sdS W (W * H) C 2))) rfl (by decide) rfl hr rfl (Nat.le_of_ble_eq_true rfl) (sd0 ((Int32.ofInt 2))) (fun r h hq9 => ?_)
                  obtain ⟨rfl, rfl⟩ := hq9
                  refine g_virt1 (Qc := fun r h' => h' = h ∧ r = some (.int (Int32.ofNat (cnt (sdS W (W * H) C 2))))) rfl (by decide) rfl hr rfl (Nat.le_of_ble_eq_true rfl) (s_manyE (by omega)) (fun r h hq9 => ?_)
                  obtain ⟨rfl, rfl⟩ := hq9
                  refine g_ireturn (ty := .int) rfl rfl rfl ?_
                  exact Or.inr ⟨by omega, Or.inr (Or.inr ⟨h2, Or.inr ⟨hi, by unfold tlS; rw [if_neg (by omega), if_neg (by omega), if_pos hs2]⟩⟩)⟩
                · skip
                  refine g_tsIn 4 189 rfl (by omega) (by rw [hs2]; rfl) rfl rfl ?_
                  refine g_iload_n (i := 3) rfl rfl ?_
                  refine g_bipush (n := 100) rfl ?_
                  have k_32 : ((Int8.ofInt 100).toInt32).toInt = 100 := rfl
                  refine g_idiv rfl (by decide) ?_
                  have t_33 : (((co S) / (Int8.ofInt 100).toInt32)).toInt = ((C / 100 : Nat) : Int) := n_div (X := C) (Y := 100) hC (show _ = ((100 : Nat) : Int) from k_32) (by omega)
                  refine g_bipush (n := 10) rfl ?_
                  have k_34 : ((Int8.ofInt 10).toInt32).toInt = 10 := rfl
                  refine g_irem rfl (by decide) ?_
                  have t_35 : ((((co S) / (Int8.ofInt 100).toInt32) - ((co S) / (Int8.ofInt 100).toInt32) / (Int8.ofInt 10).toInt32 * (Int8.ofInt 10).toInt32)).toInt = (((C / 100) % 10 : Nat) : Int) := n_rem (X := C / 100) (Y := 10) t_33 (show _ = ((10 : Nat) : Int) from k_34) (by omega)
                  refine g_ireturn (ty := .int) rfl rfl rfl ?_
                  have hb1 := n_rem (n_div hC (show (Int8.ofInt 10).toInt32.toInt = ((10 : Nat) : Int) from rfl) (by decide)) (show (Int8.ofInt 10).toInt32.toInt = ((10 : Nat) : Int) from rfl) (by decide)
                  have ha1 := n_rem (n_div hC (show (Int8.ofInt 100).toInt32.toInt = ((100 : Nat) : Int) from rfl) (by decide)) (show (Int8.ofInt 10).toInt32.toInt = ((10 : Nat) : Int) from rfl) (by decide)
                  exact Or.inr ⟨by omega, Or.inr (Or.inr ⟨h2, Or.inr ⟨hi, by unfold tlS; rw [if_neg (by omega), if_neg (by omega), if_neg (by omega), if_pos hs2]; exact congrArg (fun z => some (Value.int z)) (of_n ha1 (by omega))⟩⟩)⟩
                · skip
                  refine g_tsIn 5 197 rfl (by omega) (by rw [hs2]; rfl) rfl rfl ?_
                  refine g_iload_n (i := 3) rfl rfl ?_
                  refine g_bipush (n := 100) rfl ?_
                  have k_36 : ((Int8.ofInt 100).toInt32).toInt = 100 := rfl
                  refine g_idiv rfl (by decide) ?_
                  have t_37 : (((co S) / (Int8.ofInt 100).toInt32)).toInt = ((C / 100 : Nat) : Int) := n_div (X := C) (Y := 100) hC (show _ = ((100 : Nat) : Int) from k_36) (by omega)
                  refine g_bipush (n := 10) rfl ?_
                  have k_38 : ((Int8.ofInt 10).toInt32).toInt = 10 := rfl
                  refine g_irem rfl (by decide) ?_
                  have t_39 : ((((co S) / (Int8.ofInt 100).toInt32) - ((co S) / (Int8.ofInt 100).toInt32) / (Int8.ofInt 10).toInt32 * (Int8.ofInt 10).toInt32)).toInt = (((C / 100) % 10 : Nat) : Int) := n_rem (X := C / 100) (Y := 10) t_37 (show _ = ((10 : Nat) : Int) from k_38) (by omega)
                  refine g_iload_n (i := 3) rfl rfl ?_
                  refine g_bipush (n := 10) rfl ?_
                  refine g_idiv rfl (by decide) ?_
                  have t_40 : (((co S) / (Int8.ofInt 10).toInt32)).toInt = ((C / 10 : Nat) : Int) := n_div (X := C) (Y := 10) hC (show _ = ((10 : Nat) : Int) from k_38) (by omega)
                  refine g_bipush (n := 10) rfl ?_
                  refine g_irem rfl (by decide) ?_
                  have t_41 : ((((co S) / (Int8.ofInt 10).toInt32) - ((co S) / (Int8.ofInt 10).toInt32) / (Int8.ofInt 10).toInt32 * (Int8.ofInt 10).toInt32)).toInt = (((C / 10) % 10 : Nat) : Int) := n_rem (X := C / 10) (Y := 10) t_40 (show _ = ((10 : Nat) : Int) from k_38) (by omega)
                  refine g_imul rfl ?_
                  refine g_ireturn (ty := .int) rfl rfl rfl ?_
                  have hb1 := n_rem (n_div hC (show (Int8.ofInt 10).toInt32.toInt = ((10 : Nat) : Int) from rfl) (by decide)) (show (Int8.ofInt 10).toInt32.toInt = ((10 : Nat) : Int) from rfl) (by decide)
                  have ha1 := n_rem (n_div hC (show (Int8.ofInt 100).toInt32.toInt = ((100 : Nat) : Int) from rfl) (by decide)) (show (Int8.ofInt 10).toInt32.toInt = ((10 : Nat) : Int) from rfl) (by decide)
                  exact Or.inr ⟨by omega, Or.inr (Or.inr ⟨h2, Or.inr ⟨hi, by unfold tlS; rw [if_neg (by omega), if_neg (by omega), if_neg (by omega), if_neg (by omega), if_pos hs2]; exact congrArg (fun z => some (Value.int z)) (of_n (n_mul ha1 hb1 (by omega)) (by omega))⟩⟩)⟩
                · skip
                  refine g_tsOut 213 rfl (by omega) rfl ?_
                  refine g_iload_n (i := 3) rfl rfl ?_
                  refine g_bipush (n := 10) rfl ?_
                  have k_42 : ((Int8.ofInt 10).toInt32).toInt = 10 := rfl
                  refine g_idiv rfl (by decide) ?_
                  have t_43 : (((co S) / (Int8.ofInt 10).toInt32)).toInt = ((C / 10 : Nat) : Int) := n_div (X := C) (Y := 10) hC (show _ = ((10 : Nat) : Int) from k_42) (by omega)
                  refine g_bipush (n := 10) rfl ?_
                  refine g_irem rfl (by decide) ?_
                  have t_44 : ((((co S) / (Int8.ofInt 10).toInt32) - ((co S) / (Int8.ofInt 10).toInt32) / (Int8.ofInt 10).toInt32 * (Int8.ofInt 10).toInt32)).toInt = (((C / 10) % 10 : Nat) : Int) := n_rem (X := C / 10) (Y := 10) t_43 (show _ = ((10 : Nat) : Int) from k_42) (by omega)
                  refine g_ireturn (ty := .int) rfl rfl rfl ?_
                  have hb1 := n_rem (n_div hC (show (Int8.ofInt 10).toInt32.toInt = ((10 : Nat) : Int) from rfl) (by decide)) (show (Int8.ofInt 10).toInt32.toInt = ((10 : Nat) : Int) from rfl) (by decide)
                  have ha1 := n_rem (n_div hC (show (Int8.ofInt 100).toInt32.toInt = ((100 : Nat) : Int) from rfl) (by decide)) (show (Int8.ofInt 10).toInt32.toInt = ((10 : Nat) : Int) from rfl) (by decide)
                  exact Or.inr ⟨by omega, Or.inr (Or.inr ⟨h2, Or.inr ⟨hi, by unfold tlS; rw [if_neg (by omega), if_pos (Or.inr hs2)]; exact congrArg (fun z => some (Value.int z)) (of_n hb1 (by omega))⟩⟩)⟩
              · skip
                rw [i_eq, t_10] at c_28
                refine g_iload_n (i := 2) rfl rfl ?_
                refine g_iconst (n := 1) rfl ?_
                refine g_icmp_ne 98 rfl rfl (fun c_45 => ?_) (fun c_45 => ?_)
                · skip
                  rw [i_eq, k_7] at c_45
                  refine g_iload_n (i := 2) rfl rfl ?_
                  refine g_iconst (n := 2) rfl ?_
                  have k_47 : (Int32.ofInt 2).toInt = 2 := rfl
                  refine g_icmp_ne 110 rfl rfl (fun c_46 => ?_) (fun c_46 => ?_)
                  · skip
                    rw [i_eq, k_47] at c_46
                    refine g_aload_n (i := 0) rfl rfl ?_
                    refine g_bipush (n := (-2)) rfl ?_
                    refine g_virt1 (Qc := fun r h' => r = some (.int (-2)) ∧ h' = h.set 61 (rFc (bump R 2))) rfl (by decide) rfl hr rfl (Nat.le_of_ble_eq_true rfl) (s_no2 (X := 2) (by omega) hr hR rfl (by decide)) (fun r h9 hq9 => ?_)
                    obtain ⟨rfl, rfl⟩ := hq9
                    refine g_ireturn (ty := .int) rfl rfl rfl ?_
                    exact Or.inr ⟨by omega, Or.inr (Or.inr ⟨h2, Or.inl ⟨by unfold isoK; omega, rfl, rfl⟩⟩)⟩
                  · skip
                    rw [i_eq, k_47] at c_46
                    refine g_iload (i := 4) rfl rfl ?_
                    refine g_bipush (n := 6) rfl ?_
                    refine g_icmp_eq 117 rfl rfl (fun c_48 => ?_) (fun c_48 => ?_)
                    · skip
                      rw [i_eq, t_10, k_5] at c_48
                      refine g_iload_n (i := 2) rfl rfl ?_
                      have hk : k.toInt = 0 ∨ k.toInt = 1 ∨ k.toInt = 2 ∨ k.toInt = 3 ∨ k.toInt = 4 ∨ k.toInt = 5 ∨ k.toInt = 6 := by omega
                      have hi : isoK (C / 1000) k.toInt := by unfold isoK; omega
                      have hab := dg_le (show C / 100 % 10 < 10 by omega) (show C / 10 % 10 < 10 by omega)
                      rcases hk with hs2 | hs2 | hs2 | hs2 | hs2 | hs2 | hs2
                      · skip
                        refine g_tsIn 0 156 rfl (by omega) (by rw [hs2]; rfl) rfl rfl ?_
                        refine g_aload_n (i := 0) rfl rfl ?_
                        refine g_aload_n (i := 0) rfl rfl ?_
                        refine g_iload_n (i := 3) rfl rfl ?_
                        refine g_iconst (n := 0) rfl ?_
                        refine g_virt2 (Qc := fun r h' => h' = h ∧ r = some (.long (sdS W (W * H) C 0))) rfl (by decide) rfl hr rfl (Nat.le_of_ble_eq_true rfl) (sd0 ((Int32.ofInt 0))) (fun r h hq9 => ?_)
                        obtain ⟨rfl, rfl⟩ := hq9
                        refine g_virt1 (Qc := fun r h' => h' = h ∧ r = some (.int (Int32.ofNat (cnt (sdS W (W * H) C 0))))) rfl (by decide) rfl hr rfl (Nat.le_of_ble_eq_true rfl) (s_manyE (by omega)) (fun r h hq9 => ?_)
                        obtain ⟨rfl, rfl⟩ := hq9
                        refine g_ireturn (ty := .int) rfl rfl rfl ?_
                        exact Or.inr ⟨by omega, Or.inr (Or.inr ⟨h2, Or.inr ⟨hi, by unfold tlS; rw [if_neg (by omega), if_neg (by omega), if_neg (by omega), if_neg (by omega), if_neg (by omega)]⟩⟩)⟩
                      · skip
                        refine g_tsIn 1 167 rfl (by omega) (by rw [hs2]; rfl) rfl rfl ?_
                        refine g_aload_n (i := 0) rfl rfl ?_
                        refine g_aload_n (i := 0) rfl rfl ?_
                        refine g_iload_n (i := 3) rfl rfl ?_
                        refine g_iconst (n := 1) rfl ?_
                        refine g_virt2 (Qc := fun r h' => h' = h ∧ r = some (.long (sdS W (W * H) C 1))) rfl (by decide) rfl hr rfl (Nat.le_of_ble_eq_true rfl) (sd0 ((Int32.ofInt 1))) (fun r h hq9 => ?_)
                        obtain ⟨rfl, rfl⟩ := hq9
                        refine g_virt1 (Qc := fun r h' => h' = h ∧ r = some (.int (Int32.ofNat (cnt (sdS W (W * H) C 1))))) rfl (by decide) rfl hr rfl (Nat.le_of_ble_eq_true rfl) (s_manyE (by omega)) (fun r h hq9 => ?_)
                        obtain ⟨rfl, rfl⟩ := hq9
                        refine g_ireturn (ty := .int) rfl rfl rfl ?_
                        exact Or.inr ⟨by omega, Or.inr (Or.inr ⟨h2, Or.inr ⟨hi, by unfold tlS; rw [if_pos hs2]⟩⟩)⟩
                      · skip
                        refine g_tsIn 2 213 rfl (by omega) (by rw [hs2]; rfl) rfl rfl ?_
                        refine g_iload_n (i := 3) rfl rfl ?_
                        refine g_bipush (n := 10) rfl ?_
                        have k_49 : ((Int8.ofInt 10).toInt32).toInt = 10 := rfl
                        refine g_idiv rfl (by decide) ?_
                        have t_50 : (((co S) / (Int8.ofInt 10).toInt32)).toInt = ((C / 10 : Nat) : Int) := n_div (X := C) (Y := 10) hC (show _ = ((10 : Nat) : Int) from k_49) (by omega)
                        refine g_bipush (n := 10) rfl ?_
                        refine g_irem rfl (by decide) ?_
                        have t_51 : ((((co S) / (Int8.ofInt 10).toInt32) - ((co S) / (Int8.ofInt 10).toInt32) / (Int8.ofInt 10).toInt32 * (Int8.ofInt 10).toInt32)).toInt = (((C / 10) % 10 : Nat) : Int) := n_rem (X := C / 10) (Y := 10) t_50 (show _ = ((10 : Nat) : Int) from k_49) (by omega)
                        refine g_ireturn (ty := .int) rfl rfl rfl ?_
                        have hb1 := n_rem (n_div hC (show (Int8.ofInt 10).toInt32.toInt = ((10 : Nat) : Int) from rfl) (by decide)) (show (Int8.ofInt 10).toInt32.toInt = ((10 : Nat) : Int) from rfl) (by decide)
                        have ha1 := n_rem (n_div hC (show (Int8.ofInt 100).toInt32.toInt = ((100 : Nat) : Int) from rfl) (by decide)) (show (Int8.ofInt 10).toInt32.toInt = ((10 : Nat) : Int) from rfl) (by decide)
                        exact Or.inr ⟨by omega, Or.inr (Or.inr ⟨h2, Or.inr ⟨hi, by unfold tlS; rw [if_neg (by omega), if_pos (Or.inl hs2)]; exact congrArg (fun z => some (Value.int z)) (of_n hb1 (by omega))⟩⟩)⟩
                      · skip
                        refine g_tsIn 3 178 rfl (by omega) (by rw [hs2]; rfl) rfl rfl ?_
                        refine g_aload_n (i := 0) rfl rfl ?_
                        refine g_aload_n (i := 0) rfl rfl ?_
                        refine g_iload_n (i := 3) rfl rfl ?_
                        refine g_iconst (n := 2) rfl ?_
                        refine g_virt2 (Qc := fun r h' => h' = h ∧ r = some (.long (sdS W (W * H) C 2))) rfl (by decide) rfl hr rfl (Nat.le_of_ble_eq_true rfl) (sd0 ((Int32.ofInt 2))) (fun r h hq9 => ?_)
                        obtain ⟨rfl, rfl⟩ := hq9
                        refine g_virt1 (Qc := fun r h' => h' = h ∧ r = some (.int (Int32.ofNat (cnt (sdS W (W * H) C 2))))) rfl (by decide) rfl hr rfl (Nat.le_of_ble_eq_true rfl) (s_manyE (by omega)) (fun r h hq9 => ?_)
                        obtain ⟨rfl, rfl⟩ := hq9
                        refine g_ireturn (ty := .int) rfl rfl rfl ?_
                        exact Or.inr ⟨by omega, Or.inr (Or.inr ⟨h2, Or.inr ⟨hi, by unfold tlS; rw [if_neg (by omega), if_neg (by omega), if_pos hs2]⟩⟩)⟩
                      · skip
                        refine g_tsIn 4 189 rfl (by omega) (by rw [hs2]; rfl) rfl rfl ?_
                        refine g_iload_n (i := 3) rfl rfl ?_
                        refine g_bipush (n := 100) rfl ?_
                        have k_52 : ((Int8.ofInt 100).toInt32).toInt = 100 := rfl
                        refine g_idiv rfl (by decide) ?_
                        have t_53 : (((co S) / (Int8.ofInt 100).toInt32)).toInt = ((C / 100 : Nat) : Int) := n_div (X := C) (Y := 100) hC (show _ = ((100 : Nat) : Int) from k_52) (by omega)
                        refine g_bipush (n := 10) rfl ?_
                        have k_54 : ((Int8.ofInt 10).toInt32).toInt = 10 := rfl
                        refine g_irem rfl (by decide) ?_
                        have t_55 : ((((co S) / (Int8.ofInt 100).toInt32) - ((co S) / (Int8.ofInt 100).toInt32) / (Int8.ofInt 10).toInt32 * (Int8.ofInt 10).toInt32)).toInt = (((C / 100) % 10 : Nat) : Int) := n_rem (X := C / 100) (Y := 10) t_53 (show _ = ((10 : Nat) : Int) from k_54) (by omega)
                        refine g_ireturn (ty := .int) rfl rfl rfl ?_
                        have hb1 := n_rem (n_div hC (show (Int8.ofInt 10).toInt32.toInt = ((10 : Nat) : Int) from rfl) (by decide)) (show (Int8.ofInt 10).toInt32.toInt = ((10 : Nat) : Int) from rfl) (by decide)
                        have ha1 := n_rem (n_div hC (show (Int8.ofInt 100).toInt32.toInt = ((100 : Nat) : Int) from rfl) (by decide)) (show (Int8.ofInt 10).toInt32.toInt = ((10 : Nat) : Int) from rfl) (by decide)
                        exact Or.inr ⟨by omega, Or.inr (Or.inr ⟨h2, Or.inr ⟨hi, by unfold tlS; rw [if_neg (by omega), if_neg (by omega), if_neg (by omega), if_pos hs2]; exact congrArg (fun z => some (Value.int z)) (of_n ha1 (by omega))⟩⟩)⟩
                      · skip
                        refine g_tsIn 5 197 rfl (by omega) (by rw [hs2]; rfl) rfl rfl ?_
                        refine g_iload_n (i := 3) rfl rfl ?_
                        refine g_bipush (n := 100) rfl ?_
                        have k_56 : ((Int8.ofInt 100).toInt32).toInt = 100 := rfl
                        refine g_idiv rfl (by decide) ?_
                        have t_57 : (((co S) / (Int8.ofInt 100).toInt32)).toInt = ((C / 100 : Nat) : Int) := n_div (X := C) (Y := 100) hC (show _ = ((100 : Nat) : Int) from k_56) (by omega)
                        refine g_bipush (n := 10) rfl ?_
                        have k_58 : ((Int8.ofInt 10).toInt32).toInt = 10 := rfl
                        refine g_irem rfl (by decide) ?_
                        have t_59 : ((((co S) / (Int8.ofInt 100).toInt32) - ((co S) / (Int8.ofInt 100).toInt32) / (Int8.ofInt 10).toInt32 * (Int8.ofInt 10).toInt32)).toInt = (((C / 100) % 10 : Nat) : Int) := n_rem (X := C / 100) (Y := 10) t_57 (show _ = ((10 : Nat) : Int) from k_58) (by omega)
                        refine g_iload_n (i := 3) rfl rfl ?_
                        refine g_bipush (n := 10) rfl ?_
                        refine g_idiv rfl (by decide) ?_
                        have t_60 : (((co S) / (Int8.ofInt 10).toInt32)).toInt = ((C / 10 : Nat) : Int) := n_div (X := C) (Y := 10) hC (show _ = ((10 : Nat) : Int) from k_58) (by omega)
                        refine g_bipush (n := 10) rfl ?_
                        refine g_irem rfl (by decide) ?_
                        have t_61 : ((((co S) / (Int8.ofInt 10).toInt32) - ((co S) / (Int8.ofInt 10).toInt32) / (Int8.ofInt 10).toInt32 * (Int8.ofInt 10).toInt32)).toInt = (((C / 10) % 10 : Nat) : Int) := n_rem (X := C / 10) (Y := 10) t_60 (show _ = ((10 : Nat) : Int) from k_58) (by omega)
                        refine g_imul rfl ?_
                        refine g_ireturn (ty := .int) rfl rfl rfl ?_
                        have hb1 := n_rem (n_div hC (show (Int8.ofInt 10).toInt32.toInt = ((10 : Nat) : Int) from rfl) (by decide)) (show (Int8.ofInt 10).toInt32.toInt = ((10 : Nat) : Int) from rfl) (by decide)
                        have ha1 := n_rem (n_div hC (show (Int8.ofInt 100).toInt32.toInt = ((100 : Nat) : Int) from rfl) (by decide)) (show (Int8.ofInt 10).toInt32.toInt = ((10 : Nat) : Int) from rfl) (by decide)
                        exact Or.inr ⟨by omega, Or.inr (Or.inr ⟨h2, Or.inr ⟨hi, by unfold tlS; rw [if_neg (by omega), if_neg (by omega), if_neg (by omega), if_neg (by omega), if_pos hs2]; exact congrArg (fun z => some (Value.int z)) (of_n (n_mul ha1 hb1 (by omega)) (by omega))⟩⟩)⟩
                      · skip
                        refine g_tsOut 213 rfl (by omega) rfl ?_
                        refine g_iload_n (i := 3) rfl rfl ?_
                        refine g_bipush (n := 10) rfl ?_
                        have k_62 : ((Int8.ofInt 10).toInt32).toInt = 10 := rfl
                        refine g_idiv rfl (by decide) ?_
                        have t_63 : (((co S) / (Int8.ofInt 10).toInt32)).toInt = ((C / 10 : Nat) : Int) := n_div (X := C) (Y := 10) hC (show _ = ((10 : Nat) : Int) from k_62) (by omega)
                        refine g_bipush (n := 10) rfl ?_
                        refine g_irem rfl (by decide) ?_
                        have t_64 : ((((co S) / (Int8.ofInt 10).toInt32) - ((co S) / (Int8.ofInt 10).toInt32) / (Int8.ofInt 10).toInt32 * (Int8.ofInt 10).toInt32)).toInt = (((C / 10) % 10 : Nat) : Int) := n_rem (X := C / 10) (Y := 10) t_63 (show _ = ((10 : Nat) : Int) from k_62) (by omega)
                        refine g_ireturn (ty := .int) rfl rfl rfl ?_
                        have hb1 := n_rem (n_div hC (show (Int8.ofInt 10).toInt32.toInt = ((10 : Nat) : Int) from rfl) (by decide)) (show (Int8.ofInt 10).toInt32.toInt = ((10 : Nat) : Int) from rfl) (by decide)
                        have ha1 := n_rem (n_div hC (show (Int8.ofInt 100).toInt32.toInt = ((100 : Nat) : Int) from rfl) (by decide)) (show (Int8.ofInt 10).toInt32.toInt = ((10 : Nat) : Int) from rfl) (by decide)
                        exact Or.inr ⟨by omega, Or.inr (Or.inr ⟨h2, Or.inr ⟨hi, by unfold tlS; rw [if_neg (by omega), if_pos (Or.inr hs2)]; exact congrArg (fun z => some (Value.int z)) (of_n hb1 (by omega))⟩⟩)⟩
                    · skip
                      rw [i_eq, t_10, k_5] at c_48
                      refine g_aload_n (i := 0) rfl rfl ?_
                      refine g_bipush (n := (-2)) rfl ?_
                      refine g_virt1 (Qc := fun r h' => r = some (.int (-2)) ∧ h' = h.set 61 (rFc (bump R 2))) rfl (by decide) rfl hr rfl (Nat.le_of_ble_eq_true rfl) (s_no2 (X := 2) (by omega) hr hR rfl (by decide)) (fun r h9 hq9 => ?_)
                      obtain ⟨rfl, rfl⟩ := hq9
                      refine g_ireturn (ty := .int) rfl rfl rfl ?_
                      exact Or.inr ⟨by omega, Or.inr (Or.inr ⟨h2, Or.inl ⟨by unfold isoK; omega, rfl, rfl⟩⟩)⟩
                · skip
                  rw [i_eq, k_7] at c_45
                  refine g_iload (i := 4) rfl rfl ?_
                  refine g_iconst (n := 4) rfl ?_
                  have k_66 : (Int32.ofInt 4).toInt = 4 := rfl
                  refine g_icmp_eq 117 rfl rfl (fun c_65 => ?_) (fun c_65 => ?_)
                  · skip
                    rw [i_eq, t_10, k_66] at c_65
                    refine g_iload_n (i := 2) rfl rfl ?_
                    have hk : k.toInt = 0 ∨ k.toInt = 1 ∨ k.toInt = 2 ∨ k.toInt = 3 ∨ k.toInt = 4 ∨ k.toInt = 5 ∨ k.toInt = 6 := by omega
                    have hi : isoK (C / 1000) k.toInt := by unfold isoK; omega
                    have hab := dg_le (show C / 100 % 10 < 10 by omega) (show C / 10 % 10 < 10 by omega)
                    rcases hk with hs2 | hs2 | hs2 | hs2 | hs2 | hs2 | hs2
                    · skip
                      refine g_tsIn 0 156 rfl (by omega) (by rw [hs2]; rfl) rfl rfl ?_
                      refine g_aload_n (i := 0) rfl rfl ?_
                      refine g_aload_n (i := 0) rfl rfl ?_
                      refine g_iload_n (i := 3) rfl rfl ?_
                      refine g_iconst (n := 0) rfl ?_
                      refine g_virt2 (Qc := fun r h' => h' = h ∧ r = some (.long (sdS W (W * H) C 0))) rfl (by decide) rfl hr rfl (Nat.le_of_ble_eq_true rfl) (sd0 ((Int32.ofInt 0))) (fun r h hq9 => ?_)
                      obtain ⟨rfl, rfl⟩ := hq9
                      refine g_virt1 (Qc := fun r h' => h' = h ∧ r = some (.int (Int32.ofNat (cnt (sdS W (W * H) C 0))))) rfl (by decide) rfl hr rfl (Nat.le_of_ble_eq_true rfl) (s_manyE (by omega)) (fun r h hq9 => ?_)
                      obtain ⟨rfl, rfl⟩ := hq9
                      refine g_ireturn (ty := .int) rfl rfl rfl ?_
                      exact Or.inr ⟨by omega, Or.inr (Or.inr ⟨h2, Or.inr ⟨hi, by unfold tlS; rw [if_neg (by omega), if_neg (by omega), if_neg (by omega), if_neg (by omega), if_neg (by omega)]⟩⟩)⟩
                    · skip
                      refine g_tsIn 1 167 rfl (by omega) (by rw [hs2]; rfl) rfl rfl ?_
                      refine g_aload_n (i := 0) rfl rfl ?_
                      refine g_aload_n (i := 0) rfl rfl ?_
                      refine g_iload_n (i := 3) rfl rfl ?_
                      refine g_iconst (n := 1) rfl ?_
                      refine g_virt2 (Qc := fun r h' => h' = h ∧ r = some (.long (sdS W (W * H) C 1))) rfl (by decide) rfl hr rfl (Nat.le_of_ble_eq_true rfl) (sd0 ((Int32.ofInt 1))) (fun r h hq9 => ?_)
                      obtain ⟨rfl, rfl⟩ := hq9
                      refine g_virt1 (Qc := fun r h' => h' = h ∧ r = some (.int (Int32.ofNat (cnt (sdS W (W * H) C 1))))) rfl (by decide) rfl hr rfl (Nat.le_of_ble_eq_true rfl) (s_manyE (by omega)) (fun r h hq9 => ?_)
                      obtain ⟨rfl, rfl⟩ := hq9
                      refine g_ireturn (ty := .int) rfl rfl rfl ?_
                      exact Or.inr ⟨by omega, Or.inr (Or.inr ⟨h2, Or.inr ⟨hi, by unfold tlS; rw [if_pos hs2]⟩⟩)⟩
                    · skip
                      refine g_tsIn 2 213 rfl (by omega) (by rw [hs2]; rfl) rfl rfl ?_
                      refine g_iload_n (i := 3) rfl rfl ?_
                      refine g_bipush (n := 10) rfl ?_
                      have k_67 : ((Int8.ofInt 10).toInt32).toInt = 10 := rfl
                      refine g_idiv rfl (by decide) ?_
                      have t_68 : (((co S) / (Int8.ofInt 10).toInt32)).toInt = ((C / 10 : Nat) : Int) := n_div (X := C) (Y := 10) hC (show _ = ((10 : Nat) : Int) from k_67) (by omega)
                      refine g_bipush (n := 10) rfl ?_
                      refine g_irem rfl (by decide) ?_
                      have t_69 : ((((co S) / (Int8.ofInt 10).toInt32) - ((co S) / (Int8.ofInt 10).toInt32) / (Int8.ofInt 10).toInt32 * (Int8.ofInt 10).toInt32)).toInt = (((C / 10) % 10 : Nat) : Int) := n_rem (X := C / 10) (Y := 10) t_68 (show _ = ((10 : Nat) : Int) from k_67) (by omega)
                      refine g_ireturn (ty := .int) rfl rfl rfl ?_
                      have hb1 := n_rem (n_div hC (show (Int8.ofInt 10).toInt32.toInt = ((10 : Nat) : Int) from rfl) (by decide)) (show (Int8.ofInt 10).toInt32.toInt = ((10 : Nat) : Int) from rfl) (by decide)
                      have ha1 := n_rem (n_div hC (show (Int8.ofInt 100).toInt32.toInt = ((100 : Nat) : Int) from rfl) (by decide)) (show (Int8.ofInt 10).toInt32.toInt = ((10 : Nat) : Int) from rfl) (by decide)
                      exact Or.inr ⟨by omega, Or.inr (Or.inr ⟨h2, Or.inr ⟨hi, by unfold tlS; rw [if_neg (by omega), if_pos (Or.inl hs2)]; exact congrArg (fun z => some (Value.int z)) (of_n hb1 (by omega))⟩⟩)⟩
                    · skip
                      refine g_tsIn 3 178 rfl (by omega) (by rw [hs2]; rfl) rfl rfl ?_
                      refine g_aload_n (i := 0) rfl rfl ?_
                      refine g_aload_n (i := 0) rfl rfl ?_
                      refine g_iload_n (i := 3) rfl rfl ?_
                      refine g_iconst (n := 2) rfl ?_
                      refine g_virt2 (Qc := fun r h' => h' = h ∧ r = some (.long (sdS W (W * H) C 2))) rfl (by decide) rfl hr rfl (Nat.le_of_ble_eq_true rfl) (sd0 ((Int32.ofInt 2))) (fun r h hq9 => ?_)
                      obtain ⟨rfl, rfl⟩ := hq9
                      refine g_virt1 (Qc := fun r h' => h' = h ∧ r = some (.int (Int32.ofNat (cnt (sdS W (W * H) C 2))))) rfl (by decide) rfl hr rfl (Nat.le_of_ble_eq_true rfl) (s_manyE (by omega)) (fun r h hq9 => ?_)
                      obtain ⟨rfl, rfl⟩ := hq9
                      refine g_ireturn (ty := .int) rfl rfl rfl ?_
                      exact Or.inr ⟨by omega, Or.inr (Or.inr ⟨h2, Or.inr ⟨hi, by unfold tlS; rw [if_neg (by omega), if_neg (by omega), if_pos hs2]⟩⟩)⟩
                    · skip
                      refine g_tsIn 4 189 rfl (by omega) (by rw [hs2]; rfl) rfl rfl ?_
                      refine g_iload_n (i := 3) rfl rfl ?_
                      refine g_bipush (n := 100) rfl ?_
                      have k_70 : ((Int8.ofInt 100).toInt32).toInt = 100 := rfl
                      refine g_idiv rfl (by decide) ?_
                      have t_71 : (((co S) / (Int8.ofInt 100).toInt32)).toInt = ((C / 100 : Nat) : Int) := n_div (X := C) (Y := 100) hC (show _ = ((100 : Nat) : Int) from k_70) (by omega)
                      refine g_bipush (n := 10) rfl ?_
                      have k_72 : ((Int8.ofInt 10).toInt32).toInt = 10 := rfl
                      refine g_irem rfl (by decide) ?_
                      have t_73 : ((((co S) / (Int8.ofInt 100).toInt32) - ((co S) / (Int8.ofInt 100).toInt32) / (Int8.ofInt 10).toInt32 * (Int8.ofInt 10).toInt32)).toInt = (((C / 100) % 10 : Nat) : Int) := n_rem (X := C / 100) (Y := 10) t_71 (show _ = ((10 : Nat) : Int) from k_72) (by omega)
                      refine g_ireturn (ty := .int) rfl rfl rfl ?_
                      have hb1 := n_rem (n_div hC (show (Int8.ofInt 10).toInt32.toInt = ((10 : Nat) : Int) from rfl) (by decide)) (show (Int8.ofInt 10).toInt32.toInt = ((10 : Nat) : Int) from rfl) (by decide)
                      have ha1 := n_rem (n_div hC (show (Int8.ofInt 100).toInt32.toInt = ((100 : Nat) : Int) from rfl) (by decide)) (show (Int8.ofInt 10).toInt32.toInt = ((10 : Nat) : Int) from rfl) (by decide)
                      exact Or.inr ⟨by omega, Or.inr (Or.inr ⟨h2, Or.inr ⟨hi, by unfold tlS; rw [if_neg (by omega), if_neg (by omega), if_neg (by omega), if_pos hs2]; exact congrArg (fun z => some (Value.int z)) (of_n ha1 (by omega))⟩⟩)⟩
                    · skip
                      refine g_tsIn 5 197 rfl (by omega) (by rw [hs2]; rfl) rfl rfl ?_
                      refine g_iload_n (i := 3) rfl rfl ?_
                      refine g_bipush (n := 100) rfl ?_
                      have k_74 : ((Int8.ofInt 100).toInt32).toInt = 100 := rfl
                      refine g_idiv rfl (by decide) ?_
                      have t_75 : (((co S) / (Int8.ofInt 100).toInt32)).toInt = ((C / 100 : Nat) : Int) := n_div (X := C) (Y := 100) hC (show _ = ((100 : Nat) : Int) from k_74) (by omega)
                      refine g_bipush (n := 10) rfl ?_
                      have k_76 : ((Int8.ofInt 10).toInt32).toInt = 10 := rfl
                      refine g_irem rfl (by decide) ?_
                      have t_77 : ((((co S) / (Int8.ofInt 100).toInt32) - ((co S) / (Int8.ofInt 100).toInt32) / (Int8.ofInt 10).toInt32 * (Int8.ofInt 10).toInt32)).toInt = (((C / 100) % 10 : Nat) : Int) := n_rem (X := C / 100) (Y := 10) t_75 (show _ = ((10 : Nat) : Int) from k_76) (by omega)
                      refine g_iload_n (i := 3) rfl rfl ?_
                      refine g_bipush (n := 10) rfl ?_
                      refine g_idiv rfl (by decide) ?_
                      have t_78 : (((co S) / (Int8.ofInt 10).toInt32)).toInt = ((C / 10 : Nat) : Int) := n_div (X := C) (Y := 10) hC (show _ = ((10 : Nat) : Int) from k_76) (by omega)
                      refine g_bipush (n := 10) rfl ?_
                      refine g_irem rfl (by decide) ?_
                      have t_79 : ((((co S) / (Int8.ofInt 10).toInt32) - ((co S) / (Int8.ofInt 10).toInt32) / (Int8.ofInt 10).toInt32 * (Int8.ofInt 10).toInt32)).toInt = (((C / 10) % 10 : Nat) : Int) := n_rem (X := C / 10) (Y := 10) t_78 (show _ = ((10 : Nat) : Int) from k_76) (by omega)
                      refine g_imul rfl ?_
                      refine g_ireturn (ty := .int) rfl rfl rfl ?_
                      have hb1 := n_rem (n_div hC (show (Int8.ofInt 10).toInt32.toInt = ((10 : Nat) : Int) from rfl) (by decide)) (show (Int8.ofInt 10).toInt32.toInt = ((10 : Nat) : Int) from rfl) (by decide)
                      have ha1 := n_rem (n_div hC (show (Int8.ofInt 100).toInt32.toInt = ((100 : Nat) : Int) from rfl) (by decide)) (show (Int8.ofInt 10).toInt32.toInt = ((10 : Nat) : Int) from rfl) (by decide)
                      exact Or.inr ⟨by omega, Or.inr (Or.inr ⟨h2, Or.inr ⟨hi, by unfold tlS; rw [if_neg (by omega), if_neg (by omega), if_neg (by omega), if_neg (by omega), if_pos hs2]; exact congrArg (fun z => some (Value.int z)) (of_n (n_mul ha1 hb1 (by omega)) (by omega))⟩⟩)⟩
                    · skip
                      refine g_tsOut 213 rfl (by omega) rfl ?_
                      refine g_iload_n (i := 3) rfl rfl ?_
                      refine g_bipush (n := 10) rfl ?_
                      have k_80 : ((Int8.ofInt 10).toInt32).toInt = 10 := rfl
                      refine g_idiv rfl (by decide) ?_
                      have t_81 : (((co S) / (Int8.ofInt 10).toInt32)).toInt = ((C / 10 : Nat) : Int) := n_div (X := C) (Y := 10) hC (show _ = ((10 : Nat) : Int) from k_80) (by omega)
                      refine g_bipush (n := 10) rfl ?_
                      refine g_irem rfl (by decide) ?_
                      have t_82 : ((((co S) / (Int8.ofInt 10).toInt32) - ((co S) / (Int8.ofInt 10).toInt32) / (Int8.ofInt 10).toInt32 * (Int8.ofInt 10).toInt32)).toInt = (((C / 10) % 10 : Nat) : Int) := n_rem (X := C / 10) (Y := 10) t_81 (show _ = ((10 : Nat) : Int) from k_80) (by omega)
                      refine g_ireturn (ty := .int) rfl rfl rfl ?_
                      have hb1 := n_rem (n_div hC (show (Int8.ofInt 10).toInt32.toInt = ((10 : Nat) : Int) from rfl) (by decide)) (show (Int8.ofInt 10).toInt32.toInt = ((10 : Nat) : Int) from rfl) (by decide)
                      have ha1 := n_rem (n_div hC (show (Int8.ofInt 100).toInt32.toInt = ((100 : Nat) : Int) from rfl) (by decide)) (show (Int8.ofInt 10).toInt32.toInt = ((10 : Nat) : Int) from rfl) (by decide)
                      exact Or.inr ⟨by omega, Or.inr (Or.inr ⟨h2, Or.inr ⟨hi, by unfold tlS; rw [if_neg (by omega), if_pos (Or.inr hs2)]; exact congrArg (fun z => some (Value.int z)) (of_n hb1 (by omega))⟩⟩)⟩
                  · skip
                    rw [i_eq, t_10, k_66] at c_65
                    refine g_iload (i := 4) rfl rfl ?_
                    refine g_iconst (n := 5) rfl ?_
                    have k_84 : (Int32.ofInt 5).toInt = 5 := rfl
                    refine g_icmp_eq 117 rfl rfl (fun c_83 => ?_) (fun c_83 => ?_)
                    · skip
                      rw [i_eq, t_10, k_84] at c_83
                      refine g_iload_n (i := 2) rfl rfl ?_
                      have hk : k.toInt = 0 ∨ k.toInt = 1 ∨ k.toInt = 2 ∨ k.toInt = 3 ∨ k.toInt = 4 ∨ k.toInt = 5 ∨ k.toInt = 6 := by omega
                      have hi : isoK (C / 1000) k.toInt := by unfold isoK; omega
                      have hab := dg_le (show C / 100 % 10 < 10 by omega) (show C / 10 % 10 < 10 by omega)
                      rcases hk with hs2 | hs2 | hs2 | hs2 | hs2 | hs2 | hs2
                      · skip
                        refine g_tsIn 0 156 rfl (by omega) (by rw [hs2]; rfl) rfl rfl ?_
                        refine g_aload_n (i := 0) rfl rfl ?_
                        refine g_aload_n (i := 0) rfl rfl ?_
                        refine g_iload_n (i := 3) rfl rfl ?_
                        refine g_iconst (n := 0) rfl ?_
                        refine g_virt2 (Qc := fun r h' => h' = h ∧ r = some (.long (sdS W (W * H) C 0))) rfl (by decide) rfl hr rfl (Nat.le_of_ble_eq_true rfl) (sd0 ((Int32.ofInt 0))) (fun r h hq9 => ?_)
                        obtain ⟨rfl, rfl⟩ := hq9
                        refine g_virt1 (Qc := fun r h' => h' = h ∧ r = some (.int (Int32.ofNat (cnt (sdS W (W * H) C 0))))) rfl (by decide) rfl hr rfl (Nat.le_of_ble_eq_true rfl) (s_manyE (by omega)) (fun r h hq9 => ?_)
                        obtain ⟨rfl, rfl⟩ := hq9
                        refine g_ireturn (ty := .int) rfl rfl rfl ?_
                        exact Or.inr ⟨by omega, Or.inr (Or.inr ⟨h2, Or.inr ⟨hi, by unfold tlS; rw [if_neg (by omega), if_neg (by omega), if_neg (by omega), if_neg (by omega), if_neg (by omega)]⟩⟩)⟩
                      · skip
                        refine g_tsIn 1 167 rfl (by omega) (by rw [hs2]; rfl) rfl rfl ?_
                        refine g_aload_n (i := 0) rfl rfl ?_
                        refine g_aload_n (i := 0) rfl rfl ?_
                        refine g_iload_n (i := 3) rfl rfl ?_
                        refine g_iconst (n := 1) rfl ?_
                        refine g_virt2 (Qc := fun r h' => h' = h ∧ r = some (.long (sdS W (W * H) C 1))) rfl (by decide) rfl hr rfl (Nat.le_of_ble_eq_true rfl) (sd0 ((Int32.ofInt 1))) (fun r h hq9 => ?_)
                        obtain ⟨rfl, rfl⟩ := hq9
                        refine g_virt1 (Qc := fun r h' => h' = h ∧ r = some (.int (Int32.ofNat (cnt (sdS W (W * H) C 1))))) rfl (by decide) rfl hr rfl (Nat.le_of_ble_eq_true rfl) (s_manyE (by omega)) (fun r h hq9 => ?_)
                        obtain ⟨rfl, rfl⟩ := hq9
                        refine g_ireturn (ty := .int) rfl rfl rfl ?_
                        exact Or.inr ⟨by omega, Or.inr (Or.inr ⟨h2, Or.inr ⟨hi, by unfold tlS; rw [if_pos hs2]⟩⟩)⟩
                      · skip
                        refine g_tsIn 2 213 rfl (by omega) (by rw [hs2]; rfl) rfl rfl ?_
                        refine g_iload_n (i := 3) rfl rfl ?_
                        refine g_bipush (n := 10) rfl ?_
                        have k_85 : ((Int8.ofInt 10).toInt32).toInt = 10 := rfl
                        refine g_idiv rfl (by decide) ?_
                        have t_86 : (((co S) / (Int8.ofInt 10).toInt32)).toInt = ((C / 10 : Nat) : Int) := n_div (X := C) (Y := 10) hC (show _ = ((10 : Nat) : Int) from k_85) (by omega)
                        refine g_bipush (n := 10) rfl ?_
                        refine g_irem rfl (by decide) ?_
                        have t_87 : ((((co S) / (Int8.ofInt 10).toInt32) - ((co S) / (Int8.ofInt 10).toInt32) / (Int8.ofInt 10).toInt32 * (Int8.ofInt 10).toInt32)).toInt = (((C / 10) % 10 : Nat) : Int) := n_rem (X := C / 10) (Y := 10) t_86 (show _ = ((10 : Nat) : Int) from k_85) (by omega)
                        refine g_ireturn (ty := .int) rfl rfl rfl ?_
                        have hb1 := n_rem (n_div hC (show (Int8.ofInt 10).toInt32.toInt = ((10 : Nat) : Int) from rfl) (by decide)) (show (Int8.ofInt 10).toInt32.toInt = ((10 : Nat) : Int) from rfl) (by decide)
                        have ha1 := n_rem (n_div hC (show (Int8.ofInt 100).toInt32.toInt = ((100 : Nat) : Int) from rfl) (by decide)) (show (Int8.ofInt 10).toInt32.toInt = ((10 : Nat) : Int) from rfl) (by decide)
                        exact Or.inr ⟨by omega, Or.inr (Or.inr ⟨h2, Or.inr ⟨hi, by unfold tlS; rw [if_neg (by omega), if_pos (Or.inl hs2)]; exact congrArg (fun z => some (Value.int z)) (of_n hb1 (by omega))⟩⟩)⟩
                      · skip
                        refine g_tsIn 3 178 rfl (by omega) (by rw [hs2]; rfl) rfl rfl ?_
                        refine g_aload_n (i := 0) rfl rfl ?_
                        refine g_aload_n (i := 0) rfl rfl ?_
                        refine g_iload_n (i := 3) rfl rfl ?_
                        refine g_iconst (n := 2) rfl ?_
                        refine g_virt2 (Qc := fun r h' => h' = h ∧ r = some (.long (sdS W (W * H) C 2))) rfl (by decide) rfl hr rfl (Nat.le_of_ble_eq_true rfl) (sd0 ((Int32.ofInt 2))) (fun r h hq9 => ?_)
                        obtain ⟨rfl, rfl⟩ := hq9
                        refine g_virt1 (Qc := fun r h' => h' = h ∧ r = some (.int (Int32.ofNat (cnt (sdS W (W * H) C 2))))) rfl (by decide) rfl hr rfl (Nat.le_of_ble_eq_true rfl) (s_manyE (by omega)) (fun r h hq9 => ?_)
                        obtain ⟨rfl, rfl⟩ := hq9
                        refine g_ireturn (ty := .int) rfl rfl rfl ?_
                        exact Or.inr ⟨by omega, Or.inr (Or.inr ⟨h2, Or.inr ⟨hi, by unfold tlS; rw [if_neg (by omega), if_neg (by omega), if_pos hs2]⟩⟩)⟩
                      · skip
                        refine g_tsIn 4 189 rfl (by omega) (by rw [hs2]; rfl) rfl rfl ?_
                        refine g_iload_n (i := 3) rfl rfl ?_
                        refine g_bipush (n := 100) rfl ?_
                        have k_88 : ((Int8.ofInt 100).toInt32).toInt = 100 := rfl
                        refine g_idiv rfl (by decide) ?_
                        have t_89 : (((co S) / (Int8.ofInt 100).toInt32)).toInt = ((C / 100 : Nat) : Int) := n_div (X := C) (Y := 100) hC (show _ = ((100 : Nat) : Int) from k_88) (by omega)
                        refine g_bipush (n := 10) rfl ?_
                        have k_90 : ((Int8.ofInt 10).toInt32).toInt = 10 := rfl
                        refine g_irem rfl (by decide) ?_
                        have t_91 : ((((co S) / (Int8.ofInt 100).toInt32) - ((co S) / (Int8.ofInt 100).toInt32) / (Int8.ofInt 10).toInt32 * (Int8.ofInt 10).toInt32)).toInt = (((C / 100) % 10 : Nat) : Int) := n_rem (X := C / 100) (Y := 10) t_89 (show _ = ((10 : Nat) : Int) from k_90) (by omega)
                        refine g_ireturn (ty := .int) rfl rfl rfl ?_
                        have hb1 := n_rem (n_div hC (show (Int8.ofInt 10).toInt32.toInt = ((10 : Nat) : Int) from rfl) (by decide)) (show (Int8.ofInt 10).toInt32.toInt = ((10 : Nat) : Int) from rfl) (by decide)
                        have ha1 := n_rem (n_div hC (show (Int8.ofInt 100).toInt32.toInt = ((100 : Nat) : Int) from rfl) (by decide)) (show (Int8.ofInt 10).toInt32.toInt = ((10 : Nat) : Int) from rfl) (by decide)
                        exact Or.inr ⟨by omega, Or.inr (Or.inr ⟨h2, Or.inr ⟨hi, by unfold tlS; rw [if_neg (by omega), if_neg (by omega), if_neg (by omega), if_pos hs2]; exact congrArg (fun z => some (Value.int z)) (of_n ha1 (by omega))⟩⟩)⟩
                      · skip
                        refine g_tsIn 5 197 rfl (by omega) (by rw [hs2]; rfl) rfl rfl ?_
                        refine g_iload_n (i := 3) rfl rfl ?_
                        refine g_bipush (n := 100) rfl ?_
                        have k_92 : ((Int8.ofInt 100).toInt32).toInt = 100 := rfl
                        refine g_idiv rfl (by decide) ?_
                        have t_93 : (((co S) / (Int8.ofInt 100).toInt32)).toInt = ((C / 100 : Nat) : Int) := n_div (X := C) (Y := 100) hC (show _ = ((100 : Nat) : Int) from k_92) (by omega)
                        refine g_bipush (n := 10) rfl ?_
                        have k_94 : ((Int8.ofInt 10).toInt32).toInt = 10 := rfl
                        refine g_irem rfl (by decide) ?_
                        have t_95 : ((((co S) / (Int8.ofInt 100).toInt32) - ((co S) / (Int8.ofInt 100).toInt32) / (Int8.ofInt 10).toInt32 * (Int8.ofInt 10).toInt32)).toInt = (((C / 100) % 10 : Nat) : Int) := n_rem (X := C / 100) (Y := 10) t_93 (show _ = ((10 : Nat) : Int) from k_94) (by omega)
                        refine g_iload_n (i := 3) rfl rfl ?_
                        refine g_bipush (n := 10) rfl ?_
                        refine g_idiv rfl (by decide) ?_
                        have t_96 : (((co S) / (Int8.ofInt 10).toInt32)).toInt = ((C / 10 : Nat) : Int) := n_div (X := C) (Y := 10) hC (show _ = ((10 : Nat) : Int) from k_94) (by omega)
                        refine g_bipush (n := 10) rfl ?_
                        refine g_irem rfl (by decide) ?_
                        have t_97 : ((((co S) / (Int8.ofInt 10).toInt32) - ((co S) / (Int8.ofInt 10).toInt32) / (Int8.ofInt 10).toInt32 * (Int8.ofInt 10).toInt32)).toInt = (((C / 10) % 10 : Nat) : Int) := n_rem (X := C / 10) (Y := 10) t_96 (show _ = ((10 : Nat) : Int) from k_94) (by omega)
                        refine g_imul rfl ?_
                        refine g_ireturn (ty := .int) rfl rfl rfl ?_
                        have hb1 := n_rem (n_div hC (show (Int8.ofInt 10).toInt32.toInt = ((10 : Nat) : Int) from rfl) (by decide)) (show (Int8.ofInt 10).toInt32.toInt = ((10 : Nat) : Int) from rfl) (by decide)
                        have ha1 := n_rem (n_div hC (show (Int8.ofInt 100).toInt32.toInt = ((100 : Nat) : Int) from rfl) (by decide)) (show (Int8.ofInt 10).toInt32.toInt = ((10 : Nat) : Int) from rfl) (by decide)
                        exact Or.inr ⟨by omega, Or.inr (Or.inr ⟨h2, Or.inr ⟨hi, by unfold tlS; rw [if_neg (by omega), if_neg (by omega), if_neg (by omega), if_neg (by omega), if_pos hs2]; exact congrArg (fun z => some (Value.int z)) (of_n (n_mul ha1 hb1 (by omega)) (by omega))⟩⟩)⟩
                      · skip
                        refine g_tsOut 213 rfl (by omega) rfl ?_
                        refine g_iload_n (i := 3) rfl rfl ?_
                        refine g_bipush (n := 10) rfl ?_
                        have k_98 : ((Int8.ofInt 10).toInt32).toInt = 10 := rfl
                        refine g_idiv rfl (by decide) ?_
                        have t_99 : (((co S) / (Int8.ofInt 10).toInt32)).toInt = ((C / 10 : Nat) : Int) := n_div (X := C) (Y := 10) hC (show _ = ((10 : Nat) : Int) from k_98) (by omega)
                        refine g_bipush (n := 10) rfl ?_
                        refine g_irem rfl (by decide) ?_
                        have t_100 : ((((co S) / (Int8.ofInt 10).toInt32) - ((co S) / (Int8.ofInt 10).toInt32) / (Int8.ofInt 10).toInt32 * (Int8.ofInt 10).toInt32)).toInt = (((C / 10) % 10 : Nat) : Int) := n_rem (X := C / 10) (Y := 10) t_99 (show _ = ((10 : Nat) : Int) from k_98) (by omega)
                        refine g_ireturn (ty := .int) rfl rfl rfl ?_
                        have hb1 := n_rem (n_div hC (show (Int8.ofInt 10).toInt32.toInt = ((10 : Nat) : Int) from rfl) (by decide)) (show (Int8.ofInt 10).toInt32.toInt = ((10 : Nat) : Int) from rfl) (by decide)
                        have ha1 := n_rem (n_div hC (show (Int8.ofInt 100).toInt32.toInt = ((100 : Nat) : Int) from rfl) (by decide)) (show (Int8.ofInt 10).toInt32.toInt = ((10 : Nat) : Int) from rfl) (by decide)
                        exact Or.inr ⟨by omega, Or.inr (Or.inr ⟨h2, Or.inr ⟨hi, by unfold tlS; rw [if_neg (by omega), if_pos (Or.inr hs2)]; exact congrArg (fun z => some (Value.int z)) (of_n hb1 (by omega))⟩⟩)⟩
                    · skip
                      rw [i_eq, t_10, k_84] at c_83
                      refine g_iload_n (i := 2) rfl rfl ?_
                      refine g_iconst (n := 2) rfl ?_
                      have k_102 : (Int32.ofInt 2).toInt = 2 := rfl
                      refine g_icmp_ne 110 rfl rfl (fun c_101 => ?_) (fun c_101 => ?_)
                      · skip
                        rw [i_eq, k_102] at c_101
                        refine g_aload_n (i := 0) rfl rfl ?_
                        refine g_bipush (n := (-2)) rfl ?_
                        refine g_virt1 (Qc := fun r h' => r = some (.int (-2)) ∧ h' = h.set 61 (rFc (bump R 2))) rfl (by decide) rfl hr rfl (Nat.le_of_ble_eq_true rfl) (s_no2 (X := 2) (by omega) hr hR rfl (by decide)) (fun r h9 hq9 => ?_)
                        obtain ⟨rfl, rfl⟩ := hq9
                        refine g_ireturn (ty := .int) rfl rfl rfl ?_
                        exact Or.inr ⟨by omega, Or.inr (Or.inr ⟨h2, Or.inl ⟨by unfold isoK; omega, rfl, rfl⟩⟩)⟩
                      · skip
                        rw [i_eq, k_102] at c_101
                        refine g_iload (i := 4) rfl rfl ?_
                        refine g_bipush (n := 6) rfl ?_
                        refine g_icmp_eq 117 rfl rfl (fun c_103 => ?_) (fun c_103 => ?_)
                        · skip
                          rw [i_eq, t_10, k_5] at c_103
                          refine g_iload_n (i := 2) rfl rfl ?_
                          have hk : k.toInt = 0 ∨ k.toInt = 1 ∨ k.toInt = 2 ∨ k.toInt = 3 ∨ k.toInt = 4 ∨ k.toInt = 5 ∨ k.toInt = 6 := by omega
                          have hi : isoK (C / 1000) k.toInt := by unfold isoK; omega
                          have hab := dg_le (show C / 100 % 10 < 10 by omega) (show C / 10 % 10 < 10 by omega)
                          rcases hk with hs2 | hs2 | hs2 | hs2 | hs2 | hs2 | hs2
                          · skip
                            refine g_tsIn 0 156 rfl (by omega) (by rw [hs2]; rfl) rfl rfl ?_
                            refine g_aload_n (i := 0) rfl rfl ?_
                            refine g_aload_n (i := 0) rfl rfl ?_
                            refine g_iload_n (i := 3) rfl rfl ?_
                            refine g_iconst (n := 0) rfl ?_
                            refine g_virt2 (Qc := fun r h' => h' = h ∧ r = some (.long (sdS W (W * H) C 0))) rfl (by decide) rfl hr rfl (Nat.le_of_ble_eq_true rfl) (sd0 ((Int32.ofInt 0))) (fun r h hq9 => ?_)
                            obtain ⟨rfl, rfl⟩ := hq9
                            refine g_virt1 (Qc := fun r h' => h' = h ∧ r = some (.int (Int32.ofNat (cnt (sdS W (W * H) C 0))))) rfl (by decide) rfl hr rfl (Nat.le_of_ble_eq_true rfl) (s_manyE (by omega)) (fun r h hq9 => ?_)
                            obtain ⟨rfl, rfl⟩ := hq9
                            refine g_ireturn (ty := .int) rfl rfl rfl ?_
                            exact Or.inr ⟨by omega, Or.inr (Or.inr ⟨h2, Or.inr ⟨hi, by unfold tlS; rw [if_neg (by omega), if_neg (by omega), if_neg (by omega), if_neg (by omega), if_neg (by omega)]⟩⟩)⟩
                          · skip
                            refine g_tsIn 1 167 rfl (by omega) (by rw [hs2]; rfl) rfl rfl ?_
                            refine g_aload_n (i := 0) rfl rfl ?_
                            refine g_aload_n (i := 0) rfl rfl ?_
                            refine g_iload_n (i := 3) rfl rfl ?_
                            refine g_iconst (n := 1) rfl ?_
                            refine g_virt2 (Qc := fun r h' => h' = h ∧ r = some (.long (sdS W (W * H) C 1))) rfl (by decide) rfl hr rfl (Nat.le_of_ble_eq_true rfl) (sd0 ((Int32.ofInt 1))) (fun r h hq9 => ?_)
                            obtain ⟨rfl, rfl⟩ := hq9
                            refine g_virt1 (Qc := fun r h' => h' = h ∧ r = some (.int (Int32.ofNat (cnt (sdS W (W * H) C 1))))) rfl (by decide) rfl hr rfl (Nat.le_of_ble_eq_true rfl) (s_manyE (by omega)) (fun r h hq9 => ?_)
                            obtain ⟨rfl, rfl⟩ := hq9
                            refine g_ireturn (ty := .int) rfl rfl rfl ?_
                            exact Or.inr ⟨by omega, Or.inr (Or.inr ⟨h2, Or.inr ⟨hi, by unfold tlS; rw [if_pos hs2]⟩⟩)⟩
                          · skip
                            refine g_tsIn 2 213 rfl (by omega) (by rw [hs2]; rfl) rfl rfl ?_
                            refine g_iload_n (i := 3) rfl rfl ?_
                            refine g_bipush (n := 10) rfl ?_
                            have k_104 : ((Int8.ofInt 10).toInt32).toInt = 10 := rfl
                            refine g_idiv rfl (by decide) ?_
                            have t_105 : (((co S) / (Int8.ofInt 10).toInt32)).toInt = ((C / 10 : Nat) : Int) := n_div (X := C) (Y := 10) hC (show _ = ((10 : Nat) : Int) from k_104) (by omega)
                            refine g_bipush (n := 10) rfl ?_
                            refine g_irem rfl (by decide) ?_
                            have t_106 : ((((co S) / (Int8.ofInt 10).toInt32) - ((co S) / (Int8.ofInt 10).toInt32) / (Int8.ofInt 10).toInt32 * (Int8.ofInt 10).toInt32)).toInt = (((C / 10) % 10 : Nat) : Int) := n_rem (X := C / 10) (Y := 10) t_105 (show _ = ((10 : Nat) : Int) from k_104) (by omega)
                            refine g_ireturn (ty := .int) rfl rfl rfl ?_
                            have hb1 := n_rem (n_div hC (show (Int8.ofInt 10).toInt32.toInt = ((10 : Nat) : Int) from rfl) (by decide)) (show (Int8.ofInt 10).toInt32.toInt = ((10 : Nat) : Int) from rfl) (by decide)
                            have ha1 := n_rem (n_div hC (show (Int8.ofInt 100).toInt32.toInt = ((100 : Nat) : Int) from rfl) (by decide)) (show (Int8.ofInt 10).toInt32.toInt = ((10 : Nat) : Int) from rfl) (by decide)
                            exact Or.inr ⟨by omega, Or.inr (Or.inr ⟨h2, Or.inr ⟨hi, by unfold tlS; rw [if_neg (by omega), if_pos (Or.inl hs2)]; exact congrArg (fun z => some (Value.int z)) (of_n hb1 (by omega))⟩⟩)⟩
                          · skip
                            refine g_tsIn 3 178 rfl (by omega) (by rw [hs2]; rfl) rfl rfl ?_
                            refine g_aload_n (i := 0) rfl rfl ?_
                            refine g_aload_n (i := 0) rfl rfl ?_
                            refine g_iload_n (i := 3) rfl rfl ?_
                            refine g_iconst (n := 2) rfl ?_
                            refine g_virt2 (Qc := fun r h' => h' = h ∧ r = some (.long (sdS W (W * H) C 2))) rfl (by decide) rfl hr rfl (Nat.le_of_ble_eq_true rfl) (sd0 ((Int32.ofInt 2))) (fun r h hq9 => ?_)
                            obtain ⟨rfl, rfl⟩ := hq9
                            refine g_virt1 (Qc := fun r h' => h' = h ∧ r = some (.int (Int32.ofNat (cnt (sdS W (W * H) C 2))))) rfl (by decide) rfl hr rfl (Nat.le_of_ble_eq_true rfl) (s_manyE (by omega)) (fun r h hq9 => ?_)
                            obtain ⟨rfl, rfl⟩ := hq9
                            refine g_ireturn (ty := .int) rfl rfl rfl ?_
                            exact Or.inr ⟨by omega, Or.inr (Or.inr ⟨h2, Or.inr ⟨hi, by unfold tlS; rw [if_neg (by omega), if_neg (by omega), if_pos hs2]⟩⟩)⟩
                          · skip
                            refine g_tsIn 4 189 rfl (by omega) (by rw [hs2]; rfl) rfl rfl ?_
                            refine g_iload_n (i := 3) rfl rfl ?_
                            refine g_bipush (n := 100) rfl ?_
                            have k_107 : ((Int8.ofInt 100).toInt32).toInt = 100 := rfl
                            refine g_idiv rfl (by decide) ?_
                            have t_108 : (((co S) / (Int8.ofInt 100).toInt32)).toInt = ((C / 100 : Nat) : Int) := n_div (X := C) (Y := 100) hC (show _ = ((100 : Nat) : Int) from k_107) (by omega)
                            refine g_bipush (n := 10) rfl ?_
                            have k_109 : ((Int8.ofInt 10).toInt32).toInt = 10 := rfl
                            refine g_irem rfl (by decide) ?_
                            have t_110 : ((((co S) / (Int8.ofInt 100).toInt32) - ((co S) / (Int8.ofInt 100).toInt32) / (Int8.ofInt 10).toInt32 * (Int8.ofInt 10).toInt32)).toInt = (((C / 100) % 10 : Nat) : Int) := n_rem (X := C / 100) (Y := 10) t_108 (show _ = ((10 : Nat) : Int) from k_109) (by omega)
                            refine g_ireturn (ty := .int) rfl rfl rfl ?_
                            have hb1 := n_rem (n_div hC (show (Int8.ofInt 10).toInt32.toInt = ((10 : Nat) : Int) from rfl) (by decide)) (show (Int8.ofInt 10).toInt32.toInt = ((10 : Nat) : Int) from rfl) (by decide)
                            have ha1 := n_rem (n_div hC (show (Int8.ofInt 100).toInt32.toInt = ((100 : Nat) : Int) from rfl) (by decide)) (show (Int8.ofInt 10).toInt32.toInt = ((10 : Nat) : Int) from rfl) (by decide)
                            exact Or.inr ⟨by omega, Or.inr (Or.inr ⟨h2, Or.inr ⟨hi, by unfold tlS; rw [if_neg (by omega), if_neg (by omega), if_neg (by omega), if_pos hs2]; exact congrArg (fun z => some (Value.int z)) (of_n ha1 (by omega))⟩⟩)⟩
                          · skip
                            refine g_tsIn 5 197 rfl (by omega) (by rw [hs2]; rfl) rfl rfl ?_
                            refine g_iload_n (i := 3) rfl rfl ?_
                            refine g_bipush (n := 100) rfl ?_
                            have k_111 : ((Int8.ofInt 100).toInt32).toInt = 100 := rfl
                            refine g_idiv rfl (by decide) ?_
                            have t_112 : (((co S) / (Int8.ofInt 100).toInt32)).toInt = ((C / 100 : Nat) : Int) := n_div (X := C) (Y := 100) hC (show _ = ((100 : Nat) : Int) from k_111) (by omega)
                            refine g_bipush (n := 10) rfl ?_
                            have k_113 : ((Int8.ofInt 10).toInt32).toInt = 10 := rfl
                            refine g_irem rfl (by decide) ?_
                            have t_114 : ((((co S) / (Int8.ofInt 100).toInt32) - ((co S) / (Int8.ofInt 100).toInt32) / (Int8.ofInt 10).toInt32 * (Int8.ofInt 10).toInt32)).toInt = (((C / 100) % 10 : Nat) : Int) := n_rem (X := C / 100) (Y := 10) t_112 (show _ = ((10 : Nat) : Int) from k_113) (by omega)
                            refine g_iload_n (i := 3) rfl rfl ?_
                            refine g_bipush (n := 10) rfl ?_
                            refine g_idiv rfl (by decide) ?_
                            have t_115 : (((co S) / (Int8.ofInt 10).toInt32)).toInt = ((C / 10 : Nat) : Int) := n_div (X := C) (Y := 10) hC (show _ = ((10 : Nat) : Int) from k_113) (by omega)
                            refine g_bipush (n := 10) rfl ?_
                            refine g_irem rfl (by decide) ?_
                            have t_116 : ((((co S) / (Int8.ofInt 10).toInt32) - ((co S) / (Int8.ofInt 10).toInt32) / (Int8.ofInt 10).toInt32 * (Int8.ofInt 10).toInt32)).toInt = (((C / 10) % 10 : Nat) : Int) := n_rem (X := C / 10) (Y := 10) t_115 (show _ = ((10 : Nat) : Int) from k_113) (by omega)
                            refine g_imul rfl ?_
                            refine g_ireturn (ty := .int) rfl rfl rfl ?_
                            have hb1 := n_rem (n_div hC (show (Int8.ofInt 10).toInt32.toInt = ((10 : Nat) : Int) from rfl) (by decide)) (show (Int8.ofInt 10).toInt32.toInt = ((10 : Nat) : Int) from rfl) (by decide)
                            have ha1 := n_rem (n_div hC (show (Int8.ofInt 100).toInt32.toInt = ((100 : Nat) : Int) from rfl) (by decide)) (show (Int8.ofInt 10).toInt32.toInt = ((10 : Nat) : Int) from rfl) (by decide)
                            exact Or.inr ⟨by omega, Or.inr (Or.inr ⟨h2, Or.inr ⟨hi, by unfold tlS; rw [if_neg (by omega), if_neg (by omega), if_neg (by omega), if_neg (by omega), if_pos hs2]; exact congrArg (fun z => some (Value.int z)) (of_n (n_mul ha1 hb1 (by omega)) (by omega))⟩⟩)⟩
                          · skip
                            refine g_tsOut 213 rfl (by omega) rfl ?_
                            refine g_iload_n (i := 3) rfl rfl ?_
                            refine g_bipush (n := 10) rfl ?_
                            have k_117 : ((Int8.ofInt 10).toInt32).toInt = 10 := rfl
                            refine g_idiv rfl (by decide) ?_
                            have t_118 : (((co S) / (Int8.ofInt 10).toInt32)).toInt = ((C / 10 : Nat) : Int) := n_div (X := C) (Y := 10) hC (show _ = ((10 : Nat) : Int) from k_117) (by omega)
                            refine g_bipush (n := 10) rfl ?_
                            refine g_irem rfl (by decide) ?_
                            have t_119 : ((((co S) / (Int8.ofInt 10).toInt32) - ((co S) / (Int8.ofInt 10).toInt32) / (Int8.ofInt 10).toInt32 * (Int8.ofInt 10).toInt32)).toInt = (((C / 10) % 10 : Nat) : Int) := n_rem (X := C / 10) (Y := 10) t_118 (show _ = ((10 : Nat) : Int) from k_117) (by omega)
                            refine g_ireturn (ty := .int) rfl rfl rfl ?_
                            have hb1 := n_rem (n_div hC (show (Int8.ofInt 10).toInt32.toInt = ((10 : Nat) : Int) from rfl) (by decide)) (show (Int8.ofInt 10).toInt32.toInt = ((10 : Nat) : Int) from rfl) (by decide)
                            have ha1 := n_rem (n_div hC (show (Int8.ofInt 100).toInt32.toInt = ((100 : Nat) : Int) from rfl) (by decide)) (show (Int8.ofInt 10).toInt32.toInt = ((10 : Nat) : Int) from rfl) (by decide)
                            exact Or.inr ⟨by omega, Or.inr (Or.inr ⟨h2, Or.inr ⟨hi, by unfold tlS; rw [if_neg (by omega), if_pos (Or.inr hs2)]; exact congrArg (fun z => some (Value.int z)) (of_n hb1 (by omega))⟩⟩)⟩
                        · skip
                          rw [i_eq, t_10, k_5] at c_103
                          refine g_aload_n (i := 0) rfl rfl ?_
                          refine g_bipush (n := (-2)) rfl ?_
                          refine g_virt1 (Qc := fun r h' => r = some (.int (-2)) ∧ h' = h.set 61 (rFc (bump R 2))) rfl (by decide) rfl hr rfl (Nat.le_of_ble_eq_true rfl) (s_no2 (X := 2) (by omega) hr hR rfl (by decide)) (fun r h9 hq9 => ?_)
                          obtain ⟨rfl, rfl⟩ := hq9
                          refine g_ireturn (ty := .int) rfl rfl rfl ?_
                          exact Or.inr ⟨by omega, Or.inr (Or.inr ⟨h2, Or.inl ⟨by unfold isoK; omega, rfl, rfl⟩⟩)⟩
          · skip
            rw [i_eq, k_3] at c_8
            refine g_aload_n (i := 0) rfl rfl ?_
            refine g_bipush (n := (-3)) rfl ?_
            refine g_virt1 (Qc := fun r h' => r = some (.int (-3)) ∧ h' = h.set 61 (rFc (bump R 3))) rfl (by decide) rfl hr rfl (Nat.le_of_ble_eq_true rfl) (s_no2 (X := 3) (by omega) hr hR rfl (by decide)) (fun r h9 hq9 => ?_)
            obtain ⟨rfl, rfl⟩ := hq9
            refine g_ireturn (ty := .int) rfl rfl rfl ?_
            exact Or.inr ⟨by omega, Or.inr (Or.inl ⟨Int32.toInt_inj.mp (by omega), rfl, rfl⟩)⟩
        · skip
          rw [i_eq, k_7] at c_6
          refine g_aload_n (i := 0) rfl rfl ?_
          refine g_bipush (n := (-2)) rfl ?_
          refine g_virt1 (Qc := fun r h' => r = some (.int (-2)) ∧ h' = h.set 61 (rFc (bump R 2))) rfl (by decide) rfl hr rfl (Nat.le_of_ble_eq_true rfl) (s_no2 (X := 2) (by omega) hr hR rfl (by decide)) (fun r h9 hq9 => ?_)
          obtain ⟨rfl, rfl⟩ := hq9
          refine g_ireturn (ty := .int) rfl rfl rfl ?_
          exact Or.inr ⟨by omega, Or.inl ⟨Int32.toInt_inj.mp (by omega), rfl, rfl⟩⟩
      · skip
        rw [i_le, k_5] at c_4
        refine g_aload_n (i := 0) rfl rfl ?_
        refine g_iconst (n := (-1)) rfl ?_
        refine g_virt1 (Qc := fun r h' => r = some (.int (-1)) ∧ h' = h.set 61 (rFc (bump R 1))) rfl (by decide) rfl hr rfl (Nat.le_of_ble_eq_true rfl) (s_no2 (X := 1) (by omega) hr hR rfl (by decide)) (fun r h9 hq9 => ?_)
        obtain ⟨rfl, rfl⟩ := hq9
        refine g_ireturn (ty := .int) rfl rfl rfl ?_
        exact Or.inl ⟨by omega, rfl, rfl⟩
  · skip
    refine g_if_eq 18 rfl rfl (fun _ => ?_) (fun hc => absurd hc (by decide))
    refine g_aload_n (i := 0) rfl rfl ?_
    refine g_iconst (n := (-1)) rfl ?_
    refine g_virt1 (Qc := fun r h' => r = some (.int (-1)) ∧ h' = h.set 61 (rFc (bump R 1))) rfl (by decide) rfl hr rfl (Nat.le_of_ble_eq_true rfl) (s_no2 (X := 1) (by omega) hr hR rfl (by decide)) (fun r h9 hq9 => ?_)
    obtain ⟨rfl, rfl⟩ := hq9
    refine g_ireturn (ty := .int) rfl rfl rfl ?_
    exact Or.inl ⟨by omega, rfl, rfl⟩
theorem s_old12z {d : Nat} {h : sHp} {J hd R : Nat → Int32} {t b : Int32} {B : Nat} (hd1 : 3 ≤ d) (hr : h[60]? = some (mO J)) (hR : h[61]? = some (rFc R)) (a4 : h[67]? = some (.inl (0, 8, .inl hd))) (hb : b.toInt = -(B : Int)) (hB : 1 ≤ B ∧ B ≤ 7) (hx : ((0 ≤ t.toInt ∧ t.toInt < 8) ∧ wtS hd t.toInt.toNat 1 = b) ∨ (¬ (0 ≤ t.toInt ∧ t.toInt < 8) ∧ b = -1)) : sDo d 245 [.ref 60, .int t] h (fun r h' => r = some (.int b) ∧ h' = h.set 61 (rFc (bump R B))) := by
  have hb0 : ¬ b = 0 := fun z => by rw [z] at hb; have e : (0 : Int32).toInt = 0 := rfl; omega
  refine sDo_of1 (nL := 5) (L := [some (.ref 60), some (.int t), none, none, none]) (by omega) rfl rfl ?_
  refine g_aload_n (i := 0) rfl rfl ?_
  refine g_iload_n (i := 1) rfl rfl ?_
  refine g_iconst (n := 1) rfl ?_
  refine g_virt2 (Qc := fun r h' => h' = h ∧ r = some (.int b)) rfl (by decide) rfl hr rfl (Nat.le_of_ble_eq_true rfl) (sDo_mono (s_wantsE (w := Int32.ofInt 1) (by omega) hr a4 (Or.inl rfl)) (fun r h9 q => ⟨q.1, ?_⟩)) (fun r h hq9 => ?_)
  · rcases q.2 with ⟨z, q2⟩ | ⟨z, q2⟩
    · rcases hx with ⟨-, y⟩ | ⟨y, -⟩
      · rw [q2, ← y]; rfl
      · exact absurd z y
    · rcases hx with ⟨y, -⟩ | ⟨-, y⟩
      · exact absurd y z
      · rw [q2, y]
  obtain ⟨rfl, rfl⟩ := hq9
  refine g_istore_n (i := 2) (L1 := [some (.ref 60), some (.int t), some (.int b), none, none]) rfl (Nat.le_of_ble_eq_true rfl) rfl ?_
  refine g_iconst (n := 0) rfl ?_
  refine g_istore_n (i := 3) (L1 := [some (.ref 60), some (.int t), some (.int b), some (.int (Int32.ofInt 0)), none]) rfl (Nat.le_of_ble_eq_true rfl) rfl ?_
  refine g_iload_n (i := 2) rfl rfl ?_
  refine g_if_eq 19 rfl rfl (fun hc => absurd hc (by exact hb0)) (fun _ => ?_)
  refine g_aload_n (i := 0) rfl rfl ?_
  refine g_iload_n (i := 2) rfl rfl ?_
  refine g_virt1 (Qc := fun r h' => r = some (.int b) ∧ h' = h.set 61 (rFc (bump R B))) rfl (by decide) rfl hr rfl (Nat.le_of_ble_eq_true rfl) (s_no2 (by omega) hr hR hb hB) (fun r h9 hq9 => ?_)
  obtain ⟨rfl, rfl⟩ := hq9
  refine g_ireturn (ty := .int) rfl rfl rfl ?_
  exact ⟨rfl, rfl⟩
theorem s_sure12z {d : Nat} {h : sHp} {J hd R : Nat → Int32} {t b : Int32} {B : Nat} {y : Int32} (hd1 : 3 ≤ d) (hr : h[60]? = some (mO J)) (hR : h[61]? = some (rFc R)) (a4 : h[67]? = some (.inl (0, 8, .inl hd))) (hb : b.toInt = -(B : Int)) (hB : 1 ≤ B ∧ B ≤ 7) (hx : ((0 ≤ t.toInt ∧ t.toInt < 8) ∧ wtS hd t.toInt.toNat 1 = b) ∨ (¬ (0 ≤ t.toInt ∧ t.toInt < 8) ∧ b = -1)) : sDo d 246 [.ref 60, .int t, .int y] h (fun r h' => r = some (.long b.toInt64) ∧ h' = h.set 61 (rFc (bump R B))) := by
  have hb0 : ¬ b = 0 := fun z => by rw [z] at hb; have e : (0 : Int32).toInt = 0 := rfl; omega
  refine sDo_of1 (nL := 8) (L := [some (.ref 60), some (.int t), some (.int y), none, none, none, none, none]) (by omega) rfl rfl ?_
  refine g_aload_n (i := 0) rfl rfl ?_
  refine g_iload_n (i := 1) rfl rfl ?_
  refine g_iconst (n := 1) rfl ?_
  refine g_virt2 (Qc := fun r h' => h' = h ∧ r = some (.int b)) rfl (by decide) rfl hr rfl (Nat.le_of_ble_eq_true rfl) (sDo_mono (s_wantsE (w := Int32.ofInt 1) (by omega) hr a4 (Or.inl rfl)) (fun r h9 q => ⟨q.1, ?_⟩)) (fun r h hq9 => ?_)
  · rcases q.2 with ⟨z, q2⟩ | ⟨z, q2⟩
    · rcases hx with ⟨-, y⟩ | ⟨y, -⟩
      · rw [q2, ← y]; rfl
      · exact absurd z y
    · rcases hx with ⟨y, -⟩ | ⟨-, y⟩
      · exact absurd y z
      · rw [q2, y]
  obtain ⟨rfl, rfl⟩ := hq9
  refine g_istore_n (i := 3) (L1 := [some (.ref 60), some (.int t), some (.int y), some (.int b), none, none, none, none]) rfl (Nat.le_of_ble_eq_true rfl) rfl ?_
  refine g_iload_n (i := 3) rfl rfl ?_
  refine g_if_eq 18 rfl rfl (fun hc => absurd hc (by exact hb0)) (fun _ => ?_)
  refine g_aload_n (i := 0) rfl rfl ?_
  refine g_iload_n (i := 3) rfl rfl ?_
  refine g_virt1 (Qc := fun r h' => r = some (.int b) ∧ h' = h.set 61 (rFc (bump R B))) rfl (by decide) rfl hr rfl (Nat.le_of_ble_eq_true rfl) (s_no2 (by omega) hr hR hb hB) (fun r h9 hq9 => ?_)
  obtain ⟨rfl, rfl⟩ := hq9
  refine g_i2l rfl ?_
  refine g_lreturn rfl rfl ?_
  exact ⟨rfl, rfl⟩
theorem s_sure12cz {d : Nat} {h : sHp} {J sz fc : Nat → Int32} {W H n : Nat} {t : Int32} {T : Nat} {TT : Nat → Int32} {cl : Nat → Int64} {R : Nat → Int32} {y : Int32} (hd1 : 5 ≤ d) (hr : h[60]? = some (mO J)) (g : gdM J W H) (hT : t.toInt = T) (hT8 : T < 8) (a6 : h[69]? = some (.inl (0, 8, .inl sz))) (a8 : h[71]? = some (.inl (1, 800, .inr (.inl cl)))) (hz : sz T = Int32.ofNat n) (RT1 : RT cl T n TT) (hR : h[61]? = some (rFc R)) (hno : sDo (d - 1) 184 [.ref 60, .int t, .int (Int32.ofInt 1)] h (fun r h' => h' = h ∧ r = some (.int 0))) (h76 : h[76]? = some (.inl (0, 1000, .inl fc))) : sDo d 246 [.ref 60, .int t, .int y] h (fun r h' => ((y.toInt < 0 ∨ 1 < y.toInt) ∧ r = some (.long (-5 : Int32).toInt64) ∧ h' = h.set 61 (rFc (bump R 5))) ∨ (¬ (y.toInt < 0 ∨ 1 < y.toInt) ∧ r = some (.long (if fcN W (W * H) TT n (lsT W H true true) 0 = 0 then Int64.ofNat 0 else fcX W (W * H) TT n y.toInt (lsT W H true true) (stO (fun _ => true) (W * H)))) ∧ h'[61]? = some (rFc R))) := by
  have w8 := g.2.2.2.1
  have h8 := g.2.2.2.2.2
  refine sDo_of1 (nL := 8) (L := [some (.ref 60), some (.int t), some (.int y), none, none, none, none, none]) (by omega) rfl rfl ?_
  refine g_aload_n (i := 0) rfl rfl ?_
  refine g_iload_n (i := 1) rfl rfl ?_
  refine g_iconst (n := 1) rfl ?_
  refine g_virt2 (Qc := fun r h' => h' = h ∧ r = some (.int 0)) rfl (by decide) rfl hr rfl (Nat.le_of_ble_eq_true rfl) (hno) (fun r h hq9 => ?_)
  obtain ⟨rfl, rfl⟩ := hq9
  refine g_istore_n (i := 3) (L1 := [some (.ref 60), some (.int t), some (.int y), some (.int 0), none, none, none, none]) rfl (Nat.le_of_ble_eq_true rfl) rfl ?_
  refine g_iload_n (i := 3) rfl rfl ?_
  refine g_if_eq 18 rfl rfl (fun _ => ?_) (fun hc => absurd hc (by decide))
  refine g_iload_n (i := 2) rfl rfl ?_
  have k_2 : (0 : Int32).toInt = 0 := rfl
  refine g_if_lt 27 rfl rfl (fun c_1 => ?_) (fun c_1 => ?_)
  · skip
    rw [i_lt, k_2] at c_1
    refine g_aload_n (i := 0) rfl rfl ?_
    refine g_bipush (n := (-5)) rfl ?_
    refine g_virt1 (Qc := fun r h' => r = some (.int (-5)) ∧ h' = h.set 61 (rFc (bump R 5))) rfl (by decide) rfl hr rfl (Nat.le_of_ble_eq_true rfl) (s_no2 (X := 5) (by omega) hr hR rfl (by decide)) (fun r h9 hq9 => ?_)
    obtain ⟨rfl, rfl⟩ := hq9
    refine g_i2l rfl ?_
    refine g_lreturn rfl rfl ?_
    exact Or.inl ⟨by omega, rfl, rfl⟩
  · skip
    rw [i_lt, k_2] at c_1
    refine g_iload_n (i := 2) rfl rfl ?_
    refine g_iconst (n := 1) rfl ?_
    have k_4 : (Int32.ofInt 1).toInt = 1 := rfl
    refine g_icmp_le 35 rfl rfl (fun c_3 => ?_) (fun c_3 => ?_)
    · skip
      rw [i_le, k_4] at c_3
      refine g_aload_n (i := 0) rfl rfl ?_
      refine g_bipush (n := 54) rfl ?_
      have hls := s_lists12 (d := d - 1) (kd := (Int8.ofInt 54).toInt32) (b4 := true) (b32 := true) (by omega) g hr h76 (by decide) (by decide) (by decide) (by decide)
      refine g_virt1 rfl (by decide) rfl hr rfl (Nat.le_of_ble_eq_true rfl) hls (fun r h2 hq => ?_)
      obtain ⟨rfl, ⟨J2, fc2, hr2, b2, j31, g76, p1⟩, E2⟩ := hq
      have gM2 : gdM J2 W H := ⟨(b2 0 (by decide)).trans g.1, (b2 1 (by decide)).trans g.2.1, g.2.2⟩
      have A6 := (E2.2 69 (by decide) (by decide)).trans a6
      have A8 := (E2.2 71 (by decide) (by decide)).trans a8
      refine g_aload_n (i := 0) rfl rfl ?_
      refine g_virt0 (Qc := fun r h' => h' = h2 ∧ r = some (.long (stO (fun _ => true) (W * H)))) rfl (by decide) rfl hr2 rfl (Nat.le_of_ble_eq_true rfl) (s_all12 (d := d - 1) (by omega) hr2 gM2) (fun r h2 hq9 => ?_)
      obtain ⟨rfl, rfl⟩ := hq9
      refine g_lstore (i := 4) (L1 := [some (.ref 60), some (.int t), some (.int y), some (.int 0), some (.long (stO (fun _ => true) (W * H))), none, none, none]) rfl (Nat.le_of_ble_eq_true rfl) rfl ?_
      refine g_iconst (n := 0) rfl ?_
      refine g_istore (i := 6) (L1 := [some (.ref 60), some (.int t), some (.int y), some (.int 0), some (.long (stO (fun _ => true) (W * H))), none, some (.int (Int32.ofInt 0)), none]) rfl (Nat.le_of_ble_eq_true rfl) rfl ?_
      refine g_iconst (n := 0) rfl ?_
      refine g_istore (i := 7) (L1 := [some (.ref 60), some (.int t), some (.int y), some (.int 0), some (.long (stO (fun _ => true) (W * H))), none, some (.int (Int32.ofInt 0)), some (.int (Int32.ofInt 0))]) rfl (Nat.le_of_ble_eq_true rfl) rfl ?_
      exact sGo_mono (s_sure12_go (d := d - 1) (y := y) (by omega) hr2 gM2 hT hT8 A6 A8 hz RT1 (ls_k w8 h8) (ls_len w8 h8) j31 g76 p1 (lsT W H true true) [] 0 (stO (fun _ => true) (W * H)) rfl (by decide)) (fun r h' q => Or.inr ⟨by omega, q.2, by rw [q.1]; exact (E2.2 61 (by decide) (by decide)).trans hR⟩)
    · skip
      rw [i_le, k_4] at c_3
      refine g_aload_n (i := 0) rfl rfl ?_
      refine g_bipush (n := (-5)) rfl ?_
      refine g_virt1 (Qc := fun r h' => r = some (.int (-5)) ∧ h' = h.set 61 (rFc (bump R 5))) rfl (by decide) rfl hr rfl (Nat.le_of_ble_eq_true rfl) (s_no2 (X := 5) (by omega) hr hR rfl (by decide)) (fun r h9 hq9 => ?_)
      obtain ⟨rfl, rfl⟩ := hq9
      refine g_i2l rfl ?_
      refine g_lreturn rfl rfl ?_
      exact Or.inl ⟨by omega, rfl, rfl⟩
