/-! ===== the piece of an owner ===== -/
theorem s_piece12_go {d : Nat} {h : sHp} {m : MF} {W H : Nat} {v : Int32} (M : MC h m) (g : gdM m.1 W H) : ∀ (f k : Nat), k + f = W * H → sGo none 213 d 5 [some (.ref 60), some (.int v), some (.long (stO (fun q => decide (m.2.2.1 q = v)) k)), none, some (.int (Int32.ofNat k))] [] h (fun r h' => h' = h ∧ r = some (.long (stO (fun q => decide (m.2.2.1 q = v)) (W * H)))) := by
  have hr := M.1
  have gd := g
  obtain ⟨gw, gh, w2, w8, h2, h8⟩ := gd
  have hn := gdM_n g
  have hw0 : (m.1 0).toInt = ((W : Nat) : Int) := by rw [gw]; exact ofN_toInt (by omega)
  have hw1 : (m.1 1).toInt = ((H : Nat) : Int) := by rw [gh]; exact ofN_toInt (by omega)
  have hwn : (m.1 0 * m.1 1).toInt = ((W * H : Nat) : Int) := n_mul hw0 hw1 (by omega)
  intro f
  induction f with
  | zero =>
    intro k hk
    have ek := ofN_toInt (n := k) (by omega)
    have eW : W * H = k := by omega
    refine g_iload (i := 4) rfl rfl ?_
    refine g_aload_n (i := 0) rfl rfl ?_
    refine g_getfield (v := .int (m.1 0)) rfl hr (by decide) rfl ?_
    refine g_aload_n (i := 0) rfl rfl ?_
    refine g_getfield (v := .int (m.1 1)) rfl hr (by decide) rfl ?_
    refine g_imul rfl ?_
    refine g_icmp_ge 43 rfl rfl (fun _ => ?_) (fun hc => absurd hc (by rw [i_le, hwn, ek]; omega))
    refine g_lload_n (i := 2) rfl rfl ?_
    refine g_lreturn rfl rfl ?_
    exact ⟨rfl, by rw [eW]⟩
  | succ f ih =>
    intro k hk
    have ek := ofN_toInt (n := k) (by omega)
    refine g_iload (i := 4) rfl rfl ?_
    refine g_aload_n (i := 0) rfl rfl ?_
    refine g_getfield (v := .int (m.1 0)) rfl hr (by decide) rfl ?_
    refine g_aload_n (i := 0) rfl rfl ?_
    refine g_getfield (v := .int (m.1 1)) rfl hr (by decide) rfl ?_
    refine g_imul rfl ?_
    refine g_icmp_ge 43 rfl rfl (fun hc => absurd hc (by rw [i_le, hwn, ek]; omega)) (fun _ => ?_)
    refine g_aload_n (i := 0) rfl rfl ?_
    refine g_getfield (v := .ref 63) rfl hr (by decide) rfl ?_
    refine g_iload (i := 4) rfl rfl ?_
    refine g_iaload (n := 64) (f := m.2.2.1) rfl M.2.2.1 (i_in (by omega) (by omega)) ?_
    rw [i_nat ek]
    refine g_iload_n (i := 1) rfl rfl ?_
    refine g_icmp_ne 37 rfl rfl (fun c_1 => ?_) (fun c_1 => ?_)
    · skip
      refine g_iinc (i := 4) (L1 := [some (.ref 60), some (.int v), some (.long (stO (fun q => decide (m.2.2.1 q = v)) k)), none, some (.int ((Int32.ofNat k) + Int32.ofInt 1))]) rfl rfl rfl ?_
      rw [ofN_add (by omega)]
      refine g_goto 5 rfl rfl ?_
      have key := ih (k + 1) (by omega)
      rw [show stO (fun q => decide (m.2.2.1 q = v)) (k + 1) = (stO (fun q => decide (m.2.2.1 q = v)) k) from if_neg (fun z => c_1 (of_decide_eq_true z))] at key
      exact key
    · skip
      refine g_lload_n (i := 2) rfl rfl ?_
      refine g_lconst (n := 1) rfl ?_
      show sGo none 213 _ 32 [some (.ref 60), some (.int v), some (.long (stO (fun q => decide (m.2.2.1 q = v)) k)), none, some (.int (Int32.ofNat k))] [.long (Int64.ofNat 1), .long (stO (fun q => decide (m.2.2.1 q = v)) k)] _ _
      refine g_iload (i := 4) rfl rfl ?_
      refine g_lshl rfl ?_
      refine g_lor rfl ?_
      refine g_lstore_n (i := 2) (L1 := [some (.ref 60), some (.int v), some (.long ((stO (fun q => decide (m.2.2.1 q = v)) k) ||| ((Int64.ofNat 1) <<< ((Int32.ofNat k).toInt64 &&& 63)))), none, some (.int (Int32.ofNat k))]) rfl (Nat.le_of_ble_eq_true rfl) rfl ?_
      refine g_iinc (i := 4) (L1 := [some (.ref 60), some (.int v), some (.long ((stO (fun q => decide (m.2.2.1 q = v)) k) ||| ((Int64.ofNat 1) <<< ((Int32.ofNat k).toInt64 &&& 63)))), none, some (.int ((Int32.ofNat k) + Int32.ofInt 1))]) rfl rfl rfl ?_
      rw [ofN_add (by omega)]
      refine g_goto 5 rfl rfl ?_
      have key := ih (k + 1) (by omega)
      rw [show stO (fun q => decide (m.2.2.1 q = v)) (k + 1) = ((stO (fun q => decide (m.2.2.1 q = v)) k) ||| ((Int64.ofNat 1) <<< ((Int32.ofNat k).toInt64 &&& 63))) from if_pos (decide_eq_true c_1)] at key
      exact key
theorem s_piece12 {d : Nat} {h : sHp} {m : MF} {W H : Nat} {v : Int32} (hd : 1 ≤ d) (M : MC h m) (g : gdM m.1 W H) : sDo d 213 [.ref 60, .int v] h (fun r h' => h' = h ∧ r = some (.long (stO (fun q => decide (m.2.2.1 q = v)) (W * H)))) := by
  refine sDo_of1 (nL := 5) (L := [some (.ref 60), some (.int v), none, none, none]) (by omega) rfl rfl ?_
  refine g_lconst (n := 0) rfl ?_
  show sGo none 213 _ 1 [some (.ref 60), some (.int v), none, none, none] [.long (Int64.ofNat 0)] _ _
  refine g_lstore_n (i := 2) (L1 := [some (.ref 60), some (.int v), some (.long (Int64.ofNat 0)), none, none]) rfl (Nat.le_of_ble_eq_true rfl) rfl ?_
  refine g_iconst (n := 0) rfl ?_
  refine g_istore (i := 4) (L1 := [some (.ref 60), some (.int v), some (.long (Int64.ofNat 0)), none, some (.int (Int32.ofInt 0))]) rfl (Nat.le_of_ble_eq_true rfl) rfl ?_
  exact s_piece12_go (d := d - 1) M g (W * H) 0 (Nat.zero_add _)
/-! ===== the road ===== -/
def rdB (W H : Nat) (r : Int) (q : Nat) : Bool := if r = 0 then decide (q < W) else if r = 1 then decide (q % W = W - 1) else if r = 2 then decide (W * (H - 1) ≤ q) else decide (q % W = 0)
def rdS (W H : Nat) (r : Int) : Int64 := stO (rdB W H r) (W * H)
theorem s_road11 {d : Nat} {h : sHp} {c : CF} {W H : Nat} (hd : 1 ≤ d) (F : FC h 5 c) (g : gdF c W H) (hr : 0 ≤ (c.1 7).toInt ∧ (c.1 7).toInt ≤ 3) : sDo d 52 [.ref 5] h (fun r h' => h' = h ∧ r = some (.long (rdS W H (c.1 7).toInt))) := by
  obtain ⟨g0, g1, w2, w8, h2, h8, -, g3, g4, g5, g6⟩ := g
  refine sDo_of1 (nL := 1) (L := [some (.ref 5)]) (by omega) rfl rfl ?_
  refine g_aload_n (i := 0) rfl rfl ?_
  refine g_getfield (v := .int (c.1 7)) rfl F.1 (by decide) rfl ?_
  rcases (show (c.1 7).toInt = 0 ∨ (c.1 7).toInt = 1 ∨ (c.1 7).toInt = 2 ∨ (c.1 7).toInt = 3 by omega) with hv | hv | hv | hv
  · skip
    refine g_tsIn 0 32 rfl (by omega) (by rw [hv]; rfl) rfl rfl ?_
    refine g_aload_n (i := 0) rfl rfl ?_
    refine g_getfield (v := .long (c.2.1 5)) rfl F.1 (by decide) rfl ?_
    refine g_lreturn rfl rfl ?_
    exact ⟨rfl, by rw [hv]; exact congrArg (fun z => some (Value.long z)) g5⟩
  · skip
    refine g_tsIn 1 37 rfl (by omega) (by rw [hv]; rfl) rfl rfl ?_
    refine g_aload_n (i := 0) rfl rfl ?_
    refine g_getfield (v := .long (c.2.1 4)) rfl F.1 (by decide) rfl ?_
    refine g_lreturn rfl rfl ?_
    exact ⟨rfl, by rw [hv]; exact congrArg (fun z => some (Value.long z)) g4⟩
  · skip
    refine g_tsIn 2 42 rfl (by omega) (by rw [hv]; rfl) rfl rfl ?_
    refine g_aload_n (i := 0) rfl rfl ?_
    refine g_getfield (v := .long (c.2.1 6)) rfl F.1 (by decide) rfl ?_
    refine g_lreturn rfl rfl ?_
    exact ⟨rfl, by rw [hv]; exact congrArg (fun z => some (Value.long z)) g6⟩
  · skip
    refine g_tsOut 47 rfl (by omega) rfl ?_
    refine g_aload_n (i := 0) rfl rfl ?_
    refine g_getfield (v := .long (c.2.1 3)) rfl F.1 (by decide) rfl ?_
    refine g_lreturn rfl rfl ?_
    exact ⟨rfl, by rw [hv]; exact congrArg (fun z => some (Value.long z)) g3⟩
theorem s_road12_go {d : Nat} {h : sHp} {m : MF} {W H : Nat} (M : MC h m) (g : gdM m.1 W H) : ∀ (f k : Nat) (o4 : Option Value), k + f = W * H → sGo none 226 d 4 [some (.ref 60), some (.long (stO (rdB W H (m.1 2).toInt) k)), none, some (.int (Int32.ofNat k)), o4] [] h (fun r h' => h' = h ∧ r = some (.long (rdS W H (m.1 2).toInt))) := by
  have hr := M.1
  have gd := g
  obtain ⟨gw, gh, w2, w8, h2, h8⟩ := gd
  have hn := gdM_n g
  have hw0 : (m.1 0).toInt = ((W : Nat) : Int) := by rw [gw]; exact ofN_toInt (by omega)
  have hw1 : (m.1 1).toInt = ((H : Nat) : Int) := by rw [gh]; exact ofN_toInt (by omega)
  have hwn : (m.1 0 * m.1 1).toInt = ((W * H : Nat) : Int) := n_mul hw0 hw1 (by omega)
  have hWH : W * (H - 1) + W = W * H := by
    have e := Nat.mul_succ W (H - 1)
    rw [show (H - 1).succ = H by omega] at e
    exact e.symm
  intro f
  induction f with
  | zero =>
    intro k o4 hk
    have ek := ofN_toInt (n := k) (by omega)
    have eW : W * H = k := by omega
    refine g_iload_n (i := 3) rfl rfl ?_
    refine g_aload_n (i := 0) rfl rfl ?_
    refine g_getfield (v := .int (m.1 0)) rfl hr (by decide) rfl ?_
    refine g_aload_n (i := 0) rfl rfl ?_
    refine g_getfield (v := .int (m.1 1)) rfl hr (by decide) rfl ?_
    refine g_imul rfl ?_
    refine g_icmp_ge 138 rfl rfl (fun _ => ?_) (fun hc => absurd hc (by rw [i_le, hwn, ek]; omega))
    refine g_lload_n (i := 1) rfl rfl ?_
    refine g_lreturn rfl rfl ?_
    exact ⟨rfl, by unfold rdS; rw [eW]⟩
  | succ f ih =>
    intro k o4 hk
    have ek := ofN_toInt (n := k) (by omega)
    have hmd := Nat.mod_lt k (show 0 < W by omega)
    refine g_iload_n (i := 3) rfl rfl ?_
    refine g_aload_n (i := 0) rfl rfl ?_
    refine g_getfield (v := .int (m.1 0)) rfl hr (by decide) rfl ?_
    refine g_aload_n (i := 0) rfl rfl ?_
    refine g_getfield (v := .int (m.1 1)) rfl hr (by decide) rfl ?_
    refine g_imul rfl ?_
    refine g_icmp_ge 138 rfl rfl (fun hc => absurd hc (by rw [i_le, hwn, ek]; omega)) (fun _ => ?_)
    refine g_aload_n (i := 0) rfl rfl ?_
    refine g_getfield (v := .int (m.1 2)) rfl hr (by decide) rfl ?_
    have k_2 : (0 : Int32).toInt = 0 := rfl
    refine g_if_ne 40 rfl rfl (fun c_1 => ?_) (fun c_1 => ?_)
    · skip
      rw [i_eq, k_2] at c_1
      refine g_aload_n (i := 0) rfl rfl ?_
      refine g_getfield (v := .int (m.1 2)) rfl hr (by decide) rfl ?_
      refine g_iconst (n := 1) rfl ?_
      have k_4 : (Int32.ofInt 1).toInt = 1 := rfl
      refine g_icmp_ne 71 rfl rfl (fun c_3 => ?_) (fun c_3 => ?_)
      · skip
        rw [i_eq, k_4] at c_3
        refine g_aload_n (i := 0) rfl rfl ?_
        refine g_getfield (v := .int (m.1 2)) rfl hr (by decide) rfl ?_
        refine g_iconst (n := 2) rfl ?_
        have k_6 : (Int32.ofInt 2).toInt = 2 := rfl
        refine g_icmp_ne 105 rfl rfl (fun c_5 => ?_) (fun c_5 => ?_)
        · skip
          rw [i_eq, k_6] at c_5
          refine g_iload_n (i := 3) rfl rfl ?_
          refine g_aload_n (i := 0) rfl rfl ?_
          refine g_getfield (v := .int (m.1 0)) rfl hr (by decide) rfl ?_
          refine g_irem rfl (by intro z; rw [z] at hw0; have e : (0 : Int32).toInt = 0 := rfl; omega) ?_
          have t_7 : (((Int32.ofNat k) - (Int32.ofNat k) / (m.1 0) * (m.1 0))).toInt = ((k % W : Nat) : Int) := n_rem (X := k) (Y := W) ek (show _ = ((W : Nat) : Int) from hw0) (by omega)
          refine g_if_ne 118 rfl rfl (fun c_8 => ?_) (fun c_8 => ?_)
          · skip
            rw [i_eq, t_7, k_2] at c_8
            refine g_iconst (n := 0) rfl ?_
            refine g_istore (i := 4) (L1 := [some (.ref 60), some (.long (stO (rdB W H (m.1 2).toInt) k)), none, some (.int (Int32.ofNat k)), some (.int (Int32.ofInt 0))]) rfl (Nat.le_of_ble_eq_true rfl) rfl ?_
            refine g_iload (i := 4) rfl rfl ?_
            refine g_if_eq 132 rfl rfl (fun _ => ?_) (fun hc => absurd hc (by decide))
            refine g_iinc (i := 3) (L1 := [some (.ref 60), some (.long (stO (rdB W H (m.1 2).toInt) k)), none, some (.int ((Int32.ofNat k) + Int32.ofInt 1)), some (.int (Int32.ofInt 0))]) rfl rfl rfl ?_
            rw [ofN_add (by omega)]
            refine g_goto 4 rfl rfl ?_
            have e : rdB W H (m.1 2).toInt k = false := by
              unfold rdB
              (repeat' split) <;> first | exact decide_eq_false (by omega) | (exfalso; omega)
            have key := ih (k + 1) (some (.int (Int32.ofInt 0))) (by omega)
            rw [show stO (rdB W H (m.1 2).toInt) (k + 1) = (stO (rdB W H (m.1 2).toInt) k) from if_neg (fun z => by rw [e] at z; cases z)] at key
            exact key
          · skip
            rw [i_eq, t_7, k_2] at c_8
            refine g_iconst (n := 1) rfl ?_
            refine g_goto 119 rfl rfl ?_
            refine g_istore (i := 4) (L1 := [some (.ref 60), some (.long (stO (rdB W H (m.1 2).toInt) k)), none, some (.int (Int32.ofNat k)), some (.int (Int32.ofInt 1))]) rfl (Nat.le_of_ble_eq_true rfl) rfl ?_
            refine g_iload (i := 4) rfl rfl ?_
            refine g_if_eq 132 rfl rfl (fun hc => absurd hc (by decide)) (fun _ => ?_)
            refine g_lload_n (i := 1) rfl rfl ?_
            refine g_lconst (n := 1) rfl ?_
            show sGo none 226 _ 128 [some (.ref 60), some (.long (stO (rdB W H (m.1 2).toInt) k)), none, some (.int (Int32.ofNat k)), some (.int (Int32.ofInt 1))] [.long (Int64.ofNat 1), .long (stO (rdB W H (m.1 2).toInt) k)] _ _
            refine g_iload_n (i := 3) rfl rfl ?_
            refine g_lshl rfl ?_
            refine g_lor rfl ?_
            refine g_lstore_n (i := 1) (L1 := [some (.ref 60), some (.long ((stO (rdB W H (m.1 2).toInt) k) ||| ((Int64.ofNat 1) <<< ((Int32.ofNat k).toInt64 &&& 63)))), none, some (.int (Int32.ofNat k)), some (.int (Int32.ofInt 1))]) rfl (Nat.le_of_ble_eq_true rfl) rfl ?_
            refine g_iinc (i := 3) (L1 := [some (.ref 60), some (.long ((stO (rdB W H (m.1 2).toInt) k) ||| ((Int64.ofNat 1) <<< ((Int32.ofNat k).toInt64 &&& 63)))), none, some (.int ((Int32.ofNat k) + Int32.ofInt 1)), some (.int (Int32.ofInt 1))]) rfl rfl rfl ?_
            rw [ofN_add (by omega)]
            refine g_goto 4 rfl rfl ?_
            have e : rdB W H (m.1 2).toInt k = true := by
              unfold rdB
              (repeat' split) <;> first | exact decide_eq_true (by omega) | (exfalso; omega)
            have key := ih (k + 1) (some (.int (Int32.ofInt 1))) (by omega)
            rw [show stO (rdB W H (m.1 2).toInt) (k + 1) = ((stO (rdB W H (m.1 2).toInt) k) ||| ((Int64.ofNat 1) <<< ((Int32.ofNat k).toInt64 &&& 63))) from if_pos e] at key
            exact key
        · skip
          rw [i_eq, k_6] at c_5
          refine g_iload_n (i := 3) rfl rfl ?_
          refine g_aload_n (i := 0) rfl rfl ?_
          refine g_getfield (v := .int (m.1 0)) rfl hr (by decide) rfl ?_
          refine g_aload_n (i := 0) rfl rfl ?_
          refine g_getfield (v := .int (m.1 1)) rfl hr (by decide) rfl ?_
          refine g_imul rfl ?_
          refine g_aload_n (i := 0) rfl rfl ?_
          refine g_getfield (v := .int (m.1 0)) rfl hr (by decide) rfl ?_
          refine g_isub rfl ?_
          have t_9 : (((m.1 0) * (m.1 1)) - (m.1 0)).toInt = ((W * H : Nat) : Int) - ((W : Nat) : Int) := by rw [i_sub (by rw [hwn, hw0]; omega) (by rw [hwn, hw0]; omega), hwn, hw0]
          refine g_icmp_lt 101 rfl rfl (fun c_10 => ?_) (fun c_10 => ?_)
          · skip
            rw [i_lt, ek, t_9] at c_10
            refine g_iconst (n := 0) rfl ?_
            refine g_goto 119 rfl rfl ?_
            refine g_istore (i := 4) (L1 := [some (.ref 60), some (.long (stO (rdB W H (m.1 2).toInt) k)), none, some (.int (Int32.ofNat k)), some (.int (Int32.ofInt 0))]) rfl (Nat.le_of_ble_eq_true rfl) rfl ?_
            refine g_iload (i := 4) rfl rfl ?_
            refine g_if_eq 132 rfl rfl (fun _ => ?_) (fun hc => absurd hc (by decide))
            refine g_iinc (i := 3) (L1 := [some (.ref 60), some (.long (stO (rdB W H (m.1 2).toInt) k)), none, some (.int ((Int32.ofNat k) + Int32.ofInt 1)), some (.int (Int32.ofInt 0))]) rfl rfl rfl ?_
            rw [ofN_add (by omega)]
            refine g_goto 4 rfl rfl ?_
            have e : rdB W H (m.1 2).toInt k = false := by
              unfold rdB
              (repeat' split) <;> first | exact decide_eq_false (by omega) | (exfalso; omega)
            have key := ih (k + 1) (some (.int (Int32.ofInt 0))) (by omega)
            rw [show stO (rdB W H (m.1 2).toInt) (k + 1) = (stO (rdB W H (m.1 2).toInt) k) from if_neg (fun z => by rw [e] at z; cases z)] at key
            exact key
          · skip
            rw [i_lt, ek, t_9] at c_10
            refine g_iconst (n := 1) rfl ?_
            refine g_goto 119 rfl rfl ?_
            refine g_istore (i := 4) (L1 := [some (.ref 60), some (.long (stO (rdB W H (m.1 2).toInt) k)), none, some (.int (Int32.ofNat k)), some (.int (Int32.ofInt 1))]) rfl (Nat.le_of_ble_eq_true rfl) rfl ?_
            refine g_iload (i := 4) rfl rfl ?_
            refine g_if_eq 132 rfl rfl (fun hc => absurd hc (by decide)) (fun _ => ?_)
            refine g_lload_n (i := 1) rfl rfl ?_
            refine g_lconst (n := 1) rfl ?_
            show sGo none 226 _ 128 [some (.ref 60), some (.long (stO (rdB W H (m.1 2).toInt) k)), none, some (.int (Int32.ofNat k)), some (.int (Int32.ofInt 1))] [.long (Int64.ofNat 1), .long (stO (rdB W H (m.1 2).toInt) k)] _ _
            refine g_iload_n (i := 3) rfl rfl ?_
            refine g_lshl rfl ?_
            refine g_lor rfl ?_
            refine g_lstore_n (i := 1) (L1 := [some (.ref 60), some (.long ((stO (rdB W H (m.1 2).toInt) k) ||| ((Int64.ofNat 1) <<< ((Int32.ofNat k).toInt64 &&& 63)))), none, some (.int (Int32.ofNat k)), some (.int (Int32.ofInt 1))]) rfl (Nat.le_of_ble_eq_true rfl) rfl ?_
            refine g_iinc (i := 3) (L1 := [some (.ref 60), some (.long ((stO (rdB W H (m.1 2).toInt) k) ||| ((Int64.ofNat 1) <<< ((Int32.ofNat k).toInt64 &&& 63)))), none, some (.int ((Int32.ofNat k) + Int32.ofInt 1)), some (.int (Int32.ofInt 1))]) rfl rfl rfl ?_
            rw [ofN_add (by omega)]
            refine g_goto 4 rfl rfl ?_
            have e : rdB W H (m.1 2).toInt k = true := by
              unfold rdB
              (repeat' split) <;> first | exact decide_eq_true (by omega) | (exfalso; omega)
            have key := ih (k + 1) (some (.int (Int32.ofInt 1))) (by omega)
            rw [show stO (rdB W H (m.1 2).toInt) (k + 1) = ((stO (rdB W H (m.1 2).toInt) k) ||| ((Int64.ofNat 1) <<< ((Int32.ofNat k).toInt64 &&& 63))) from if_pos e] at key
            exact key
      · skip
        rw [i_eq, k_4] at c_3
        refine g_iload_n (i := 3) rfl rfl ?_
        refine g_aload_n (i := 0) rfl rfl ?_
        refine g_getfield (v := .int (m.1 0)) rfl hr (by decide) rfl ?_
        refine g_irem rfl (by intro z; rw [z] at hw0; have e : (0 : Int32).toInt = 0 := rfl; omega) ?_
        have t_11 : (((Int32.ofNat k) - (Int32.ofNat k) / (m.1 0) * (m.1 0))).toInt = ((k % W : Nat) : Int) := n_rem (X := k) (Y := W) ek (show _ = ((W : Nat) : Int) from hw0) (by omega)
        refine g_aload_n (i := 0) rfl rfl ?_
        refine g_getfield (v := .int (m.1 0)) rfl hr (by decide) rfl ?_
        refine g_iconst (n := 1) rfl ?_
        refine g_isub rfl ?_
        have t_12 : ((m.1 0) - (Int32.ofInt 1)).toInt = ((W : Nat) : Int) - 1 := by rw [i_sub (by rw [hw0, k_4]; omega) (by rw [hw0, k_4]; omega), hw0, k_4]
        refine g_icmp_ne 67 rfl rfl (fun c_13 => ?_) (fun c_13 => ?_)
        · skip
          rw [i_eq, t_11, t_12] at c_13
          refine g_iconst (n := 0) rfl ?_
          refine g_goto 119 rfl rfl ?_
          refine g_istore (i := 4) (L1 := [some (.ref 60), some (.long (stO (rdB W H (m.1 2).toInt) k)), none, some (.int (Int32.ofNat k)), some (.int (Int32.ofInt 0))]) rfl (Nat.le_of_ble_eq_true rfl) rfl ?_
          refine g_iload (i := 4) rfl rfl ?_
          refine g_if_eq 132 rfl rfl (fun _ => ?_) (fun hc => absurd hc (by decide))
          refine g_iinc (i := 3) (L1 := [some (.ref 60), some (.long (stO (rdB W H (m.1 2).toInt) k)), none, some (.int ((Int32.ofNat k) + Int32.ofInt 1)), some (.int (Int32.ofInt 0))]) rfl rfl rfl ?_
          rw [ofN_add (by omega)]
          refine g_goto 4 rfl rfl ?_
          have e : rdB W H (m.1 2).toInt k = false := by
            unfold rdB
            (repeat' split) <;> first | exact decide_eq_false (by omega) | (exfalso; omega)
          have key := ih (k + 1) (some (.int (Int32.ofInt 0))) (by omega)
          rw [show stO (rdB W H (m.1 2).toInt) (k + 1) = (stO (rdB W H (m.1 2).toInt) k) from if_neg (fun z => by rw [e] at z; cases z)] at key
          exact key
        · skip
          rw [i_eq, t_11, t_12] at c_13
          refine g_iconst (n := 1) rfl ?_
          refine g_goto 119 rfl rfl ?_
          refine g_istore (i := 4) (L1 := [some (.ref 60), some (.long (stO (rdB W H (m.1 2).toInt) k)), none, some (.int (Int32.ofNat k)), some (.int (Int32.ofInt 1))]) rfl (Nat.le_of_ble_eq_true rfl) rfl ?_
          refine g_iload (i := 4) rfl rfl ?_
          refine g_if_eq 132 rfl rfl (fun hc => absurd hc (by decide)) (fun _ => ?_)
          refine g_lload_n (i := 1) rfl rfl ?_
          refine g_lconst (n := 1) rfl ?_
          show sGo none 226 _ 128 [some (.ref 60), some (.long (stO (rdB W H (m.1 2).toInt) k)), none, some (.int (Int32.ofNat k)), some (.int (Int32.ofInt 1))] [.long (Int64.ofNat 1), .long (stO (rdB W H (m.1 2).toInt) k)] _ _
          refine g_iload_n (i := 3) rfl rfl ?_
          refine g_lshl rfl ?_
          refine g_lor rfl ?_
          refine g_lstore_n (i := 1) (L1 := [some (.ref 60), some (.long ((stO (rdB W H (m.1 2).toInt) k) ||| ((Int64.ofNat 1) <<< ((Int32.ofNat k).toInt64 &&& 63)))), none, some (.int (Int32.ofNat k)), some (.int (Int32.ofInt 1))]) rfl (Nat.le_of_ble_eq_true rfl) rfl ?_
          refine g_iinc (i := 3) (L1 := [some (.ref 60), some (.long ((stO (rdB W H (m.1 2).toInt) k) ||| ((Int64.ofNat 1) <<< ((Int32.ofNat k).toInt64 &&& 63)))), none, some (.int ((Int32.ofNat k) + Int32.ofInt 1)), some (.int (Int32.ofInt 1))]) rfl rfl rfl ?_
          rw [ofN_add (by omega)]
          refine g_goto 4 rfl rfl ?_
          have e : rdB W H (m.1 2).toInt k = true := by
            unfold rdB
            (repeat' split) <;> first | exact decide_eq_true (by omega) | (exfalso; omega)
          have key := ih (k + 1) (some (.int (Int32.ofInt 1))) (by omega)
          rw [show stO (rdB W H (m.1 2).toInt) (k + 1) = ((stO (rdB W H (m.1 2).toInt) k) ||| ((Int64.ofNat 1) <<< ((Int32.ofNat k).toInt64 &&& 63))) from if_pos e] at key
          exact key
    · skip
      rw [i_eq, k_2] at c_1
      refine g_iload_n (i := 3) rfl rfl ?_
      refine g_aload_n (i := 0) rfl rfl ?_
      refine g_getfield (v := .int (m.1 0)) rfl hr (by decide) rfl ?_
      refine g_icmp_ge 36 rfl rfl (fun c_14 => ?_) (fun c_14 => ?_)
      · skip
        rw [i_le, ek, hw0] at c_14
        refine g_iconst (n := 0) rfl ?_
        refine g_goto 119 rfl rfl ?_
        refine g_istore (i := 4) (L1 := [some (.ref 60), some (.long (stO (rdB W H (m.1 2).toInt) k)), none, some (.int (Int32.ofNat k)), some (.int (Int32.ofInt 0))]) rfl (Nat.le_of_ble_eq_true rfl) rfl ?_
        refine g_iload (i := 4) rfl rfl ?_
        refine g_if_eq 132 rfl rfl (fun _ => ?_) (fun hc => absurd hc (by decide))
        refine g_iinc (i := 3) (L1 := [some (.ref 60), some (.long (stO (rdB W H (m.1 2).toInt) k)), none, some (.int ((Int32.ofNat k) + Int32.ofInt 1)), some (.int (Int32.ofInt 0))]) rfl rfl rfl ?_
        rw [ofN_add (by omega)]
        refine g_goto 4 rfl rfl ?_
        have e : rdB W H (m.1 2).toInt k = false := by
          unfold rdB
          (repeat' split) <;> first | exact decide_eq_false (by omega) | (exfalso; omega)
        have key := ih (k + 1) (some (.int (Int32.ofInt 0))) (by omega)
        rw [show stO (rdB W H (m.1 2).toInt) (k + 1) = (stO (rdB W H (m.1 2).toInt) k) from if_neg (fun z => by rw [e] at z; cases z)] at key
        exact key
      · skip
        rw [i_le, ek, hw0] at c_14
        refine g_iconst (n := 1) rfl ?_
        refine g_goto 119 rfl rfl ?_
        refine g_istore (i := 4) (L1 := [some (.ref 60), some (.long (stO (rdB W H (m.1 2).toInt) k)), none, some (.int (Int32.ofNat k)), some (.int (Int32.ofInt 1))]) rfl (Nat.le_of_ble_eq_true rfl) rfl ?_
        refine g_iload (i := 4) rfl rfl ?_
        refine g_if_eq 132 rfl rfl (fun hc => absurd hc (by decide)) (fun _ => ?_)
        refine g_lload_n (i := 1) rfl rfl ?_
        refine g_lconst (n := 1) rfl ?_
        show sGo none 226 _ 128 [some (.ref 60), some (.long (stO (rdB W H (m.1 2).toInt) k)), none, some (.int (Int32.ofNat k)), some (.int (Int32.ofInt 1))] [.long (Int64.ofNat 1), .long (stO (rdB W H (m.1 2).toInt) k)] _ _
        refine g_iload_n (i := 3) rfl rfl ?_
        refine g_lshl rfl ?_
        refine g_lor rfl ?_
        refine g_lstore_n (i := 1) (L1 := [some (.ref 60), some (.long ((stO (rdB W H (m.1 2).toInt) k) ||| ((Int64.ofNat 1) <<< ((Int32.ofNat k).toInt64 &&& 63)))), none, some (.int (Int32.ofNat k)), some (.int (Int32.ofInt 1))]) rfl (Nat.le_of_ble_eq_true rfl) rfl ?_
        refine g_iinc (i := 3) (L1 := [some (.ref 60), some (.long ((stO (rdB W H (m.1 2).toInt) k) ||| ((Int64.ofNat 1) <<< ((Int32.ofNat k).toInt64 &&& 63)))), none, some (.int ((Int32.ofNat k) + Int32.ofInt 1)), some (.int (Int32.ofInt 1))]) rfl rfl rfl ?_
        rw [ofN_add (by omega)]
        refine g_goto 4 rfl rfl ?_
        have e : rdB W H (m.1 2).toInt k = true := by
          unfold rdB
          (repeat' split) <;> first | exact decide_eq_true (by omega) | (exfalso; omega)
        have key := ih (k + 1) (some (.int (Int32.ofInt 1))) (by omega)
        rw [show stO (rdB W H (m.1 2).toInt) (k + 1) = ((stO (rdB W H (m.1 2).toInt) k) ||| ((Int64.ofNat 1) <<< ((Int32.ofNat k).toInt64 &&& 63))) from if_pos e] at key
        exact key
theorem s_road12 {d : Nat} {h : sHp} {m : MF} {W H : Nat} (hd : 1 ≤ d) (M : MC h m) (g : gdM m.1 W H) : sDo d 226 [.ref 60] h (fun r h' => h' = h ∧ r = some (.long (rdS W H (m.1 2).toInt))) := by
  refine sDo_of1 (nL := 5) (L := [some (.ref 60), none, none, none, none]) (by omega) rfl rfl ?_
  refine g_lconst (n := 0) rfl ?_
  show sGo none 226 _ 1 [some (.ref 60), none, none, none, none] [.long (Int64.ofNat 0)] _ _
  refine g_lstore_n (i := 1) (L1 := [some (.ref 60), some (.long (Int64.ofNat 0)), none, none, none]) rfl (Nat.le_of_ble_eq_true rfl) rfl ?_
  refine g_iconst (n := 0) rfl ?_
  refine g_istore_n (i := 3) (L1 := [some (.ref 60), some (.long (Int64.ofNat 0)), none, some (.int (Int32.ofInt 0)), none]) rfl (Nat.le_of_ble_eq_true rfl) rfl ?_
  exact s_road12_go (d := d - 1) M g (W * H) 0 _ (Nat.zero_add _)
theorem gr_inN {W n : Nat} {x y : Int64} (hx : inN x n) (hy : sb y x) : inN (grF W n x y) n := fun i hi z => by
  rw [← gr_64] at z
  exact hx i hi (gr_in 64 y hy i hi z)
theorem s_reach11 {d : Nat} {h : sHp} {c : CF} {W H : Nat} {x : Int64} (hd : 3 ≤ d) (F : FC h 5 c) (g : gdF c W H) (hr : 0 ≤ (c.1 7).toInt ∧ (c.1 7).toInt ≤ 3) (hx : inN x (W * H)) : sDo d 51 [.ref 5, .long x] h (fun r h' => h' = h ∧ r = some (.long (rdS W H (c.1 7).toInt ||| (grF W (W * H) x ((x &&& rdS W H (c.1 7).toInt) &&& x) ||| besS W (W * H) (grF W (W * H) x ((x &&& rdS W H (c.1 7).toInt) &&& x)))))) := by
  have hg : inN (grF W (W * H) x ((x &&& rdS W H (c.1 7).toInt) &&& x)) (W * H) := gr_inN hx sb_and
  refine sDo_of1 (nL := 5) (L := [some (.ref 5), some (.long x), none, none, none]) (by omega) rfl rfl ?_
  refine g_aload_n (i := 0) rfl rfl ?_
  refine g_virt0 (Qc := fun r h' => h' = h ∧ r = some (.long (rdS W H (c.1 7).toInt))) rfl (by decide) rfl F.1 rfl (Nat.le_of_ble_eq_true rfl) (s_road11 (by omega) F g hr) (fun r h hq9 => ?_)
  obtain ⟨rfl, rfl⟩ := hq9
  refine g_lstore_n (i := 3) (L1 := [some (.ref 5), some (.long x), none, some (.long (rdS W H (c.1 7).toInt)), none]) rfl (Nat.le_of_ble_eq_true rfl) rfl ?_
  refine g_lload_n (i := 3) rfl rfl ?_
  refine g_aload_n (i := 0) rfl rfl ?_
  refine g_aload_n (i := 0) rfl rfl ?_
  refine g_lload_n (i := 1) rfl rfl ?_
  refine g_lload_n (i := 3) rfl rfl ?_
  refine g_land rfl ?_
  refine g_lload_n (i := 1) rfl rfl ?_
  refine g_virt2 (Qc := fun r h' => h' = h ∧ r = some (.long (grF W (W * H) x ((x &&& rdS W H (c.1 7).toInt) &&& x)))) rfl (by decide) rfl F.1 rfl (Nat.le_of_ble_eq_true rfl) (s_grown11 (by omega) F g hx) (fun r h hq9 => ?_)
  obtain ⟨rfl, rfl⟩ := hq9
  refine g_virt1 (Qc := fun r h' => h' = h ∧ r = some (.long (grF W (W * H) x ((x &&& rdS W H (c.1 7).toInt) &&& x) ||| besS W (W * H) (grF W (W * H) x ((x &&& rdS W H (c.1 7).toInt) &&& x))))) rfl (by decide) rfl F.1 rfl (Nat.le_of_ble_eq_true rfl) (s_withBeside (by omega) F g hg) (fun r h hq9 => ?_)
  obtain ⟨rfl, rfl⟩ := hq9
  refine g_lor rfl ?_
  refine g_lreturn rfl rfl ?_
  exact ⟨rfl, rfl⟩
/-! ===== the well ===== -/
theorem s_well11n {d : Nat} {h : sHp} {c : CF} {W H : Nat} {x : Int64} (hd : 2 ≤ d) (F : FC h 5 c) (g : gdF c W H) (hk : c.1 8 = -1) : sDo d 53 [.ref 5, .long x] h (fun r h' => h' = h ∧ r = some (.int 0)) := by
  have e8 : (c.1 8).toInt = -1 := by rw [hk]; rfl
  refine sDo_of1 (nL := 3) (L := [some (.ref 5), some (.long x), none]) (by omega) rfl rfl ?_
  refine g_aload_n (i := 0) rfl rfl ?_
  refine g_aload_n (i := 0) rfl rfl ?_
  refine g_getfield (v := .int (c.1 8)) rfl F.1 (by decide) rfl ?_
  refine g_virt1 (Qc := fun r h' => h' = h ∧ (((0 ≤ (c.1 8).toInt ∧ (c.1 8).toInt < ((W * H : Nat) : Int)) ∧ r = some (.int 1)) ∨ (¬ (0 ≤ (c.1 8).toInt ∧ (c.1 8).toInt < ((W * H : Nat) : Int)) ∧ r = some (.int 0)))) rfl (by decide) rfl F.1 rfl (Nat.le_of_ble_eq_true rfl) (s_isSq11 (by omega) F g) (fun r h hq9 => ?_)
  obtain ⟨rfl, ⟨c_1, rfl⟩ | ⟨c_1, rfl⟩⟩ := hq9
  · skip
    omega
  · skip
    refine g_if_eq 30 rfl rfl (fun _ => ?_) (fun hc => absurd hc (by decide))
    refine g_iconst (n := 0) rfl ?_
    refine g_ireturn (ty := .boolean) rfl rfl (by decide) ?_
    exact ⟨rfl, rfl⟩
theorem s_well11 {d : Nat} {h : sHp} {c : CF} {W H k : Nat} {x : Int64} (hd : 3 ≤ d) (F : FC h 5 c) (g : gdF c W H) (hk : c.1 8 = Int32.ofNat k) (hkn : k < W * H) : sDo d 53 [.ref 5, .long x] h (fun r h' => h' = h ∧ (x &&& (Int64.ofNat 1 <<< ((Int32.ofNat k).toInt64 &&& 63)) = Int64.ofNat 0 ∧ r = some (.int 1) ∨ ¬ x &&& (Int64.ofNat 1 <<< ((Int32.ofNat k).toInt64 &&& 63)) = Int64.ofNat 0 ∧ r = some (.int 0))) := by
  have hn := gdF_n g
  have e8 : (c.1 8).toInt = k := by rw [hk]; exact ofN_toInt (by omega)
  refine sDo_of1 (nL := 3) (L := [some (.ref 5), some (.long x), none]) (by omega) rfl rfl ?_
  refine g_aload_n (i := 0) rfl rfl ?_
  refine g_aload_n (i := 0) rfl rfl ?_
  refine g_getfield (v := .int (c.1 8)) rfl F.1 (by decide) rfl ?_
  refine g_virt1 (Qc := fun r h' => h' = h ∧ (((0 ≤ (c.1 8).toInt ∧ (c.1 8).toInt < ((W * H : Nat) : Int)) ∧ r = some (.int 1)) ∨ (¬ (0 ≤ (c.1 8).toInt ∧ (c.1 8).toInt < ((W * H : Nat) : Int)) ∧ r = some (.int 0)))) rfl (by decide) rfl F.1 rfl (Nat.le_of_ble_eq_true rfl) (s_isSq11 (by omega) F g) (fun r h hq9 => ?_)
  obtain ⟨rfl, ⟨c_1, rfl⟩ | ⟨c_1, rfl⟩⟩ := hq9
  · skip
    refine g_if_eq 30 rfl rfl (fun hc => absurd hc (by decide)) (fun _ => ?_)
    refine g_lload_n (i := 1) rfl rfl ?_
    refine g_aload_n (i := 0) rfl rfl ?_
    refine g_aload_n (i := 0) rfl rfl ?_
    refine g_getfield (v := .int (c.1 8)) rfl F.1 (by decide) rfl ?_
    rw [hk]
    refine g_virt1 (Qc := fun r h' => h' = h ∧ r = some (.long (Int64.ofNat 1 <<< ((Int32.ofNat k).toInt64 &&& 63)))) rfl (by decide) rfl F.1 rfl (Nat.le_of_ble_eq_true rfl) (s_only8 (by omega) F g hkn) (fun r h hq9 => ?_)
    obtain ⟨rfl, rfl⟩ := hq9
    refine g_land rfl ?_
    refine g_lconst (n := 0) rfl ?_
    show sGo none 53 _ 22 [some (.ref 5), some (.long x), none] [.long (Int64.ofNat 0), .long (x &&& (Int64.ofNat 1 <<< ((Int32.ofNat k).toInt64 &&& 63)))] _ _
    refine g_lcmp rfl ?_
    refine g_if_ne 30 rfl rfl (fun c_2 => ?_) (fun c_2 => ?_)
    · skip
      rw [lc_eq] at c_2
      refine g_iconst (n := 0) rfl ?_
      refine g_ireturn (ty := .boolean) rfl rfl (by decide) ?_
      exact ⟨rfl, Or.inr ⟨c_2, rfl⟩⟩
    · skip
      rw [lc_eq] at c_2
      refine g_iconst (n := 1) rfl ?_
      refine g_goto 31 rfl rfl ?_
      refine g_ireturn (ty := .boolean) rfl rfl (by decide) ?_
      exact ⟨rfl, Or.inl ⟨c_2, rfl⟩⟩
  · skip
    omega
/-! ===== shares ===== -/
def shN (m : MF) (i : Nat) : Nat := (m.2.2.2.1 i).toInt.toNat
def ssN (m : MF) : Nat → Nat
  | 0 => 0
  | k + 1 => ssN m k + shN m k
theorem RB_sh {c : CF} {m : MF} {s : Sg} (RS : RSs s c m) {i : Nat} (hi : i < s.2.2) : 1 ≤ shN m i ∧ shN m i ≤ 9 ∧ m.2.2.2.1 i = Int32.ofNat (shN m i) ∧ c.2.2.2.1 i = Int32.ofNat (shN m i) := by
  obtain ⟨n, h1, h9, e⟩ := (RS.2.2.2.2 i hi).1
  have k := (RS.2.2.1 i hi).1
  have e2 : shN m i = n := by
    unfold shN
    rw [e, ofN_toInt (by omega)]
    omega
  rw [e2, k, e]
  exact ⟨h1, h9, rfl, rfl⟩
theorem ssN_le {m : MF} : ∀ k, (∀ i, i < k → shN m i ≤ 9) → ssN m k ≤ 9 * k := by
  intro k
  induction k with
  | zero => intro _; exact Nat.le_refl _
  | succ k ih =>
    intro hs
    have := ih (fun i hi => hs i (by omega))
    have := hs k (by omega)
    show ssN m k + shN m k ≤ _
    omega
theorem s_shares11_go {d : Nat} {h : sHp} {c : CF} {m : MF} {s : Sg} (F : FC h 5 c) (r : RB c m) (sI : sgI c s) : ∀ (f k : Nat), k + f = s.2.2 → sGo none 38 d 4 [some (.ref 5), some (.int (Int32.ofNat (ssN m k))), some (.int (Int32.ofNat k))] [] h (fun r h' => h' = h ∧ r = some (.int (Int32.ofNat (ssN m s.2.2)))) := by
  have RS := (r.2 s sI).1
  have n5 := sI.2.2.2.2.2.2.2
  have e11 : (c.1 11).toInt = ((s.2.2 : Nat) : Int) := by rw [sI.2.2.1]; exact ofN_toInt (by omega)
  intro f
  induction f with
  | zero =>
    intro k hk
    have ek := ofN_toInt (n := k) (by omega)
    have eN : s.2.2 = k := by omega
    refine g_iload_n (i := 2) rfl rfl ?_
    refine g_aload_n (i := 0) rfl rfl ?_
    refine g_getfield (v := .int (c.1 11)) rfl F.1 (by decide) rfl ?_
    refine g_icmp_ge 32 rfl rfl (fun _ => ?_) (fun hc => absurd hc (by rw [i_le, e11, ek]; omega))
    refine g_iload_n (i := 1) rfl rfl ?_
    refine g_ireturn (ty := .int) rfl rfl rfl ?_
    exact ⟨rfl, by rw [eN]⟩
  | succ f ih =>
    intro k hk
    have ek := ofN_toInt (n := k) (by omega)
    have hk5 : k < s.2.2 := by omega
    have hle := ssN_le (m := m) k (fun i hi => (RB_sh RS (by omega)).2.1)
    have hsh := RB_sh RS hk5
    have ev : Int32.ofNat (ssN m k) + Int32.ofNat (shN m k) = Int32.ofNat (ssN m (k + 1)) := ofB_plus (by omega)
    refine g_iload_n (i := 2) rfl rfl ?_
    refine g_aload_n (i := 0) rfl rfl ?_
    refine g_getfield (v := .int (c.1 11)) rfl F.1 (by decide) rfl ?_
    refine g_icmp_ge 32 rfl rfl (fun hc => absurd hc (by rw [i_le, e11, ek]; omega)) (fun _ => ?_)
    refine g_iload_n (i := 2) rfl rfl ?_
    refine g_iconst (n := 5) rfl ?_
    refine g_icmp_ge 32 rfl rfl (fun hc => absurd hc (by rw [i_le, ek, show (Int32.ofInt 5).toInt = 5 from rfl]; omega)) (fun _ => ?_)
    refine g_iload_n (i := 1) rfl rfl ?_
    refine g_aload_n (i := 0) rfl rfl ?_
    refine g_getfield (v := .ref (5 + 2)) rfl F.1 (by decide) rfl ?_
    refine g_iload_n (i := 2) rfl rfl ?_
    refine g_iaload (n := 5) (f := c.2.2.2.1) rfl F.2.2.1 (i_in (by omega) (by omega)) ?_
    rw [i_nat ek, hsh.2.2.2]
    refine g_iadd rfl ?_
    rw [ev]
    refine g_istore_n (i := 1) (L1 := [some (.ref 5), some (.int (Int32.ofNat (ssN m (k + 1)))), some (.int (Int32.ofNat k))]) rfl (Nat.le_of_ble_eq_true rfl) rfl ?_
    refine g_iinc (i := 2) (L1 := [some (.ref 5), some (.int (Int32.ofNat (ssN m (k + 1)))), some (.int ((Int32.ofNat k) + Int32.ofInt 1))]) rfl rfl rfl ?_
    rw [ofN_add (by omega)]
    refine g_goto 4 rfl rfl ?_
    exact ih (k + 1) (by omega)
theorem s_shares11 {d : Nat} {h : sHp} {c : CF} {m : MF} {s : Sg} (hd : 1 ≤ d) (F : FC h 5 c) (r : RB c m) (sI : sgI c s) : sDo d 38 [.ref 5] h (fun r h' => h' = h ∧ r = some (.int (Int32.ofNat (ssN m s.2.2)))) := by
  refine sDo_of1 (nL := 3) (L := [some (.ref 5), none, none]) (by omega) rfl rfl ?_
  refine g_iconst (n := 0) rfl ?_
  refine g_istore_n (i := 1) (L1 := [some (.ref 5), some (.int (Int32.ofInt 0)), none]) rfl (Nat.le_of_ble_eq_true rfl) rfl ?_
  refine g_iconst (n := 0) rfl ?_
  refine g_istore_n (i := 2) (L1 := [some (.ref 5), some (.int (Int32.ofInt 0)), some (.int (Int32.ofInt 0))]) rfl (Nat.le_of_ble_eq_true rfl) rfl ?_
  exact s_shares11_go (d := d - 1) F r sI s.2.2 0 (Nat.zero_add _)
theorem s_shares12_go {d : Nat} {h : sHp} {c : CF} {m : MF} {s : Sg} (M : MC h m) (r : RB c m) (sI : sgI c s) (sJ : sgJ m.1 s) : ∀ (f k : Nat), k + f = s.2.2 → sGo none 228 d 4 [some (.ref 60), some (.int (Int32.ofNat (ssN m k))), some (.int (Int32.ofNat k))] [] h (fun r h' => h' = h ∧ r = some (.int (Int32.ofNat (ssN m s.2.2)))) := by
  have RS := (r.2 s sI).1
  have n5 := sI.2.2.2.2.2.2.2
  have e11 : (m.1 6).toInt = ((s.2.2 : Nat) : Int) := by rw [sJ.2.2.1]; exact ofN_toInt (by omega)
  intro f
  induction f with
  | zero =>
    intro k hk
    have ek := ofN_toInt (n := k) (by omega)
    have eN : s.2.2 = k := by omega
    refine g_iload_n (i := 2) rfl rfl ?_
    refine g_aload_n (i := 0) rfl rfl ?_
    refine g_getfield (v := .int (m.1 6)) rfl M.1 (by decide) rfl ?_
    refine g_icmp_ge 27 rfl rfl (fun _ => ?_) (fun hc => absurd hc (by rw [i_le, e11, ek]; omega))
    refine g_iload_n (i := 1) rfl rfl ?_
    refine g_ireturn (ty := .int) rfl rfl rfl ?_
    exact ⟨rfl, by rw [eN]⟩
  | succ f ih =>
    intro k hk
    have ek := ofN_toInt (n := k) (by omega)
    have hk5 : k < s.2.2 := by omega
    have hle := ssN_le (m := m) k (fun i hi => (RB_sh RS (by omega)).2.1)
    have hsh := RB_sh RS hk5
    have ev : Int32.ofNat (ssN m k) + Int32.ofNat (shN m k) = Int32.ofNat (ssN m (k + 1)) := ofB_plus (by omega)
    refine g_iload_n (i := 2) rfl rfl ?_
    refine g_aload_n (i := 0) rfl rfl ?_
    refine g_getfield (v := .int (m.1 6)) rfl M.1 (by decide) rfl ?_
    refine g_icmp_ge 27 rfl rfl (fun hc => absurd hc (by rw [i_le, e11, ek]; omega)) (fun _ => ?_)
    refine g_iload_n (i := 1) rfl rfl ?_
    refine g_aload_n (i := 0) rfl rfl ?_
    refine g_getfield (v := .ref 64) rfl M.1 (by decide) rfl ?_
    refine g_iload_n (i := 2) rfl rfl ?_
    refine g_iaload (n := 5) (f := m.2.2.2.1) rfl M.2.2.2.1 (i_in (by omega) (by omega)) ?_
    rw [i_nat ek, hsh.2.2.1]
    refine g_iadd rfl ?_
    rw [ev]
    refine g_istore_n (i := 1) (L1 := [some (.ref 60), some (.int (Int32.ofNat (ssN m (k + 1)))), some (.int (Int32.ofNat k))]) rfl (Nat.le_of_ble_eq_true rfl) rfl ?_
    refine g_iinc (i := 2) (L1 := [some (.ref 60), some (.int (Int32.ofNat (ssN m (k + 1)))), some (.int ((Int32.ofNat k) + Int32.ofInt 1))]) rfl rfl rfl ?_
    rw [ofN_add (by omega)]
    refine g_goto 4 rfl rfl ?_
    exact ih (k + 1) (by omega)
theorem s_shares12 {d : Nat} {h : sHp} {c : CF} {m : MF} {s : Sg} (hd : 1 ≤ d) (M : MC h m) (r : RB c m) (sI : sgI c s) (sJ : sgJ m.1 s) : sDo d 228 [.ref 60] h (fun r h' => h' = h ∧ r = some (.int (Int32.ofNat (ssN m s.2.2)))) := by
  refine sDo_of1 (nL := 3) (L := [some (.ref 60), none, none]) (by omega) rfl rfl ?_
  refine g_iconst (n := 0) rfl ?_
  refine g_istore_n (i := 1) (L1 := [some (.ref 60), some (.int (Int32.ofInt 0)), none]) rfl (Nat.le_of_ble_eq_true rfl) rfl ?_
  refine g_iconst (n := 0) rfl ?_
  refine g_istore_n (i := 2) (L1 := [some (.ref 60), some (.int (Int32.ofInt 0)), some (.int (Int32.ofInt 0))]) rfl (Nat.le_of_ble_eq_true rfl) rfl ?_
  exact s_shares12_go (d := d - 1) M r sI sJ s.2.2 0 (Nat.zero_add _)
theorem s_surplus11 {d : Nat} {h : sHp} {c : CF} {m : MF} {s : Sg} {i : Nat} {x : Int64} (hd : 5 ≤ d) (F : FC h 5 c) (g : gdF c s.1 s.2.1) (r : RB c m) (sI : sgI c s) (hi : i < s.2.2) : sDo d 39 [.ref 5, .int (Int32.ofNat i), .long x] h (fun r h' => h' = h ∧ ∃ v : Int32, v.toInt = ((wV m (s.1 * s.2.1) i x * ssN m s.2.2 : Nat) : Int) - ((shN m i * wV m (s.1 * s.2.1) i (stO (fun _ => true) (s.1 * s.2.1)) : Nat) : Int) ∧ r = some (.int v)) := by
  have RS := (r.2 s sI).1
  have n5 := sI.2.2.2.2.2.2.2
  have hn := gdF_n g
  have ei := ofN_toInt (n := i) (by omega)
  have a1 := wV_le (x := x) hn.1 RS hi
  have a2 := wV_le (x := stO (fun _ => true) (s.1 * s.2.1)) hn.1 RS hi
  have a3 := ssN_le (m := m) s.2.2 (fun i hi => (RB_sh RS hi).2.1)
  have a4 := RB_sh RS hi
  have p1 : wV m (s.1 * s.2.1) i x * ssN m s.2.2 ≤ 6356 * 45 := Nat.mul_le_mul a1 (by omega)
  have p2 : shN m i * wV m (s.1 * s.2.1) i (stO (fun _ => true) (s.1 * s.2.1)) ≤ 9 * 6356 := Nat.mul_le_mul a4.2.1 a2
  have m1 : (Int32.ofNat (wV m (s.1 * s.2.1) i x) * Int32.ofNat (ssN m s.2.2)).toInt = ((wV m (s.1 * s.2.1) i x * ssN m s.2.2 : Nat) : Int) := n_mul (ofC_toInt (by omega)) (ofC_toInt (by omega)) (by omega)
  have m2 : (Int32.ofNat (shN m i) * Int32.ofNat (wV m (s.1 * s.2.1) i (stO (fun _ => true) (s.1 * s.2.1)))).toInt = ((shN m i * wV m (s.1 * s.2.1) i (stO (fun _ => true) (s.1 * s.2.1)) : Nat) : Int) := n_mul (ofC_toInt (by omega)) (ofC_toInt (by omega)) (by omega)
  have g2 : c.2.1 2 = stO (fun _ => true) (s.1 * s.2.1) := g.2.2.2.2.2.2.1
  refine sDo_of1 (nL := 4) (L := [some (.ref 5), some (.int (Int32.ofNat i)), some (.long x), none]) (by omega) rfl rfl ?_
  refine g_aload_n (i := 0) rfl rfl ?_
  refine g_iload_n (i := 1) rfl rfl ?_
  refine g_virt1 (Qc := fun r h' => h' = h ∧ (((0 ≤ (Int32.ofNat i).toInt ∧ (Int32.ofNat i).toInt < (s.2.2 : Int)) ∧ r = some (.int 1)) ∨ (¬ (0 ≤ (Int32.ofNat i).toInt ∧ (Int32.ofNat i).toInt < (s.2.2 : Int)) ∧ r = some (.int 0)))) rfl (by decide) rfl F.1 rfl (Nat.le_of_ble_eq_true rfl) (s_hr11 (by omega) F sI.2.2.1 n5) (fun r h hq9 => ?_)
  obtain ⟨rfl, ⟨c_1, rfl⟩ | ⟨c_1, rfl⟩⟩ := hq9
  · skip
    refine g_if_ne 10 rfl rfl (fun _ => ?_) (fun hc => absurd hc (by decide))
    refine g_aload_n (i := 0) rfl rfl ?_
    refine g_iload_n (i := 1) rfl rfl ?_
    refine g_lload_n (i := 2) rfl rfl ?_
    refine g_virt2 (Qc := fun r h' => h' = h ∧ r = some (.int (Int32.ofNat (wV m (s.1 * s.2.1) i (x))))) rfl (by decide) rfl F.1 rfl (Nat.le_of_ble_eq_true rfl) (s_worthOf11 (by omega) F g r sI hi) (fun r h hq9 => ?_)
    obtain ⟨rfl, rfl⟩ := hq9
    refine g_aload_n (i := 0) rfl rfl ?_
    refine g_virt0 (Qc := fun r h' => h' = h ∧ r = some (.int (Int32.ofNat (ssN m s.2.2)))) rfl (by decide) rfl F.1 rfl (Nat.le_of_ble_eq_true rfl) (s_shares11 (by omega) F r sI) (fun r h hq9 => ?_)
    obtain ⟨rfl, rfl⟩ := hq9
    refine g_imul rfl ?_
    refine g_aload_n (i := 0) rfl rfl ?_
    refine g_getfield (v := .ref (5 + 2)) rfl F.1 (by decide) rfl ?_
    refine g_iload_n (i := 1) rfl rfl ?_
    refine g_iaload (n := 5) (f := c.2.2.2.1) rfl F.2.2.1 (i_in (by omega) (by omega)) ?_
    rw [i_nat ei, a4.2.2.2]
    refine g_aload_n (i := 0) rfl rfl ?_
    refine g_iload_n (i := 1) rfl rfl ?_
    refine g_aload_n (i := 0) rfl rfl ?_
    refine g_getfield (v := .long (c.2.1 2)) rfl F.1 (by decide) rfl ?_
    rw [g2]
    refine g_virt2 (Qc := fun r h' => h' = h ∧ r = some (.int (Int32.ofNat (wV m (s.1 * s.2.1) i (stO (fun _ => true) (s.1 * s.2.1)))))) rfl (by decide) rfl F.1 rfl (Nat.le_of_ble_eq_true rfl) (s_worthOf11 (by omega) F g r sI hi) (fun r h hq9 => ?_)
    obtain ⟨rfl, rfl⟩ := hq9
    refine g_imul rfl ?_
    refine g_isub rfl ?_
    refine g_ireturn (ty := .int) rfl rfl rfl ?_
    exact ⟨rfl, _, by rw [i_sub (by rw [m1, m2]; omega) (by rw [m1, m2]; omega), m1, m2], rfl⟩
  · skip
    omega
