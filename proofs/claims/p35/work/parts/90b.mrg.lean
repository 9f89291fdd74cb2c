section
/-! ===== the class's cuts, exactly ===== -/
/-- a board's longs are what its sizes say -/
def gdF (c : CF) (W H : Nat) : Prop := c.1 0 = Int32.ofNat W ∧ c.1 1 = Int32.ofNat H ∧ 2 ≤ W ∧ W ≤ 8 ∧ 2 ≤ H ∧ H ≤ 8 ∧ c.2.1 2 = stO (fun _ => true) (W * H) ∧ c.2.1 3 = stO (fun i => decide (i % W = 0)) (W * H) ∧ c.2.1 4 = stO (fun i => decide (i % W = W - 1)) (W * H) ∧ c.2.1 5 = stO (fun i => decide (i < W)) (W * H) ∧ c.2.1 6 = stO (fun i => decide (W * (H - 1) ≤ i)) (W * H)
theorem wh_le8 {W H : Nat} (a : W ≤ 8) (b : H ≤ 8) : W * H ≤ 64 := Nat.mul_le_mul a b
theorem wh_ge4 {W H : Nat} (a : 2 ≤ W) (b : 2 ≤ H) : 4 ≤ W * H := Nat.mul_le_mul a b
theorem gdF_n {c : CF} {W H : Nat} (g : gdF c W H) : W * H ≤ 64 ∧ 4 ≤ W * H := ⟨wh_le8 g.2.2.2.1 g.2.2.2.2.2.1, wh_ge4 g.2.2.1 g.2.2.2.2.1⟩
theorem bt_low {n : Int32} {i : Nat} (hi : i < 64) : bt (lowS n) i = decide ((i : Int) < n.toInt) := by
  unfold lowS
  by_cases h1 : n.toInt ≤ 0
  · rw [if_pos h1, decide_eq_false (by omega)]; exact bt_0 i
  · rw [if_neg h1]
    by_cases h2 : 64 ≤ n.toInt
    · rw [if_pos h2, bt_m1, decide_eq_true hi, decide_eq_true (by omega)]
    · rw [if_neg h2]
      obtain ⟨k, hk⟩ : ∃ k : Nat, n.toInt = k := ⟨n.toInt.toNat, by omega⟩
      have e : n = Int32.ofNat k := Int32.toInt_inj.mp (by rw [hk, ofN_toInt (by omega)])
      subst e
      rw [hk]
      have key : ∀ k, k < 64 → ∀ i, i < 64 → bt ((Int64.ofNat 1 <<< ((Int32.ofNat k).toInt64 &&& 63)) - Int64.ofNat 1) i = decide (i < k) := by decide +kernel
      rw [key k (by omega) i hi]
      exact decide_eq_decide.mpr (by omega)
theorem rg_all {n : Nat} {p : Nat → Bool} (h : (List.range n).all p = true) : ∀ i, i < n → p i = true := fun i hi => List.all_eq_true.mp h i (List.mem_range.mpr hi)
def colC (W H k i : Nat) : Bool := ((decide (i < W * H) && decide (i % W < k)) || (decide (i < 64) && (decide (k ≤ i) && (decide (i - k < W * H) && decide ((i - k) % W = 0))))) == (decide (i < W * H) && decide (i % W < k + 1))
theorem col_ck : ((List.range 9).all fun W => (List.range 9).all fun H => (List.range W).all fun k => (List.range 64).all fun i => Nat.blt W 2 || (Nat.blt H 2 || colC W H k i)) = true := by decide +kernel
theorem col_fin (W : Nat) (w8 : W < 9) (H : Nat) (h8 : H < 9) (w2 : 2 ≤ W) (h2 : 2 ≤ H) (k : Nat) (hk : k < W) (i : Nat) (hi : i < 64) : ((decide (i < W * H) && decide (i % W < k)) || (decide (i < 64) && (decide (k ≤ i) && (decide (i - k < W * H) && decide ((i - k) % W = 0))))) = (decide (i < W * H) && decide (i % W < k + 1)) := by
  have h := rg_all (rg_all (rg_all (rg_all col_ck W w8) H h8) k hk) i hi
  have e1 : Nat.blt W 2 = false := by
    cases z : Nat.blt W 2
    · rfl
    · have := Nat.le_of_ble_eq_true z; omega
  have e2 : Nat.blt H 2 = false := by
    cases z : Nat.blt H 2
    · rfl
    · have := Nat.le_of_ble_eq_true z; omega
  rw [e1, e2, Bool.false_or, Bool.false_or] at h
  exact eq_of_beq h
def colS (W n M : Nat) : Int64 := stO (fun i => decide (i % W < M)) n
theorem col_0 (W n : Nat) (hn : n ≤ 64) : Int64.ofNat 0 = colS W n 0 := bt_ext (fun i hi => by
  unfold colS
  rw [bt_0, bt_stO _ _ hn, decide_eq_false (Nat.not_lt_zero _), Bool.and_false])
theorem col_s {c : CF} {W H k : Nat} (g : gdF c W H) (hk : k < W) : colS W (W * H) k ||| (c.2.1 3 <<< ((Int32.ofNat k).toInt64 &&& 63)) = colS W (W * H) (k + 1) := by
  have hn := gdF_n g
  obtain ⟨-, -, w2, w8, h2, h8, -, g3, -⟩ := g
  apply bt_ext
  intro i hi
  unfold colS
  rw [bt_or, bt_shl (by omega), bt_stO _ _ hn.1, bt_stO _ _ hn.1, g3, bt_stO _ _ hn.1]
  exact col_fin W (by omega) H (by omega) w2 h2 k hk i hi
theorem col_end {W n k M : Nat} (hn : n ≤ 64) (hW : 0 < W) (hk : W ≤ k) (hM : k ≤ M) : colS W n k = colS W n M := stO_congr hn (fun i _ => decide_eq_decide.mpr (by have := Nat.mod_lt i hW; omega))
theorem s_columns_go {d : Nat} {h : sHp} {p : Nat} {c : CF} {W H : Nat} {m : Int32} {M : Nat} (F : FC h p c) (g : gdF c W H) (hm : m.toInt = M) : ∀ (f k : Nat), f + k = W → k ≤ M → sGo none 29 d 5 [some (.ref p), some (.int m), some (.long (colS W (W * H) k)), none, some (.int (Int32.ofNat k))] [] h (fun r h' => h' = h ∧ r = some (.long (colS W (W * H) M))) := by
  have gd := g
  obtain ⟨gw, gh, w2, w8, h2, h8, g2, g3, g4, g5, g6⟩ := gd
  have hn := gdF_n g
  have hw0 : (c.1 0).toInt = ((W : Nat) : Int) := by rw [gw]; exact ofN_toInt (by omega)
  have hw1 : (c.1 1).toInt = ((H : Nat) : Int) := by rw [gh]; exact ofN_toInt (by omega)
  have hwn : (c.1 0 * c.1 1).toInt = ((W * H : Nat) : Int) := n_mul hw0 hw1 (by omega)
  intro f
  induction f with
  | zero =>
    intro k hk hM
    have ek := ofN_toInt (n := k) (by omega)
    refine g_iload (i := 4) rfl rfl ?_
    refine g_aload_n (i := 0) rfl rfl ?_
    refine g_getfield (v := .int (c.1 0)) rfl F.1 (by decide) rfl ?_
    refine g_icmp_ge 36 rfl rfl (fun _ => ?_) (fun hc => absurd hc (by rw [i_le, hw0, ek]; omega))
    refine g_lload_n (i := 2) rfl rfl ?_
    refine g_lreturn rfl rfl ?_
    exact ⟨rfl, by rw [col_end hn.1 (by omega) (show W ≤ k by omega) hM]⟩
  | succ f ih =>
    intro k hk hM
    have ek := ofN_toInt (n := k) (by omega)
    refine g_iload (i := 4) rfl rfl ?_
    refine g_aload_n (i := 0) rfl rfl ?_
    refine g_getfield (v := .int (c.1 0)) rfl F.1 (by decide) rfl ?_
    refine g_icmp_ge 36 rfl rfl (fun hc => absurd hc (by rw [i_le, hw0, ek]; omega)) (fun _ => ?_)
    refine g_iload (i := 4) rfl rfl ?_
    refine g_iload_n (i := 1) rfl rfl ?_
    refine g_icmp_ge 36 rfl rfl (fun c_1 => ?_) (fun c_1 => ?_)
    · skip
      rw [i_le, ek, hm] at c_1
      refine g_lload_n (i := 2) rfl rfl ?_
      refine g_lreturn rfl rfl ?_
      exact ⟨rfl, by rw [show k = M by omega]⟩
    · skip
      rw [i_le, ek, hm] at c_1
      refine g_lload_n (i := 2) rfl rfl ?_
      refine g_aload_n (i := 0) rfl rfl ?_
      refine g_getfield (v := .long (c.2.1 3)) rfl F.1 (by decide) rfl ?_
      refine g_iload (i := 4) rfl rfl ?_
      refine g_lshl rfl ?_
      refine g_lor rfl ?_
      refine g_lstore_n (i := 2) (L1 := [some (.ref p), some (.int m), some (.long ((colS W (W * H) k) ||| ((c.2.1 3) <<< ((Int32.ofNat k).toInt64 &&& 63)))), none, some (.int (Int32.ofNat k))]) rfl (Nat.le_of_ble_eq_true rfl) rfl ?_
      refine g_iinc (i := 4) (L1 := [some (.ref p), some (.int m), some (.long ((colS W (W * H) k) ||| ((c.2.1 3) <<< ((Int32.ofNat k).toInt64 &&& 63)))), none, some (.int ((Int32.ofNat k) + Int32.ofInt 1))]) rfl rfl rfl ?_
      rw [ofN_add (by omega)]
      refine g_goto 5 rfl rfl ?_
      rw [col_s g (by omega)]
      exact ih (k + 1) (by omega) (by omega)
theorem s_columns {d : Nat} {h : sHp} {p : Nat} {c : CF} {W H : Nat} {m : Int32} {M : Nat} (hd : 1 ≤ d) (F : FC h p c) (g : gdF c W H) (hm : m.toInt = M) : sDo d 29 [.ref p, .int m] h (fun r h' => h' = h ∧ r = some (.long (colS W (W * H) M))) := by
  have key := s_columns_go (d := d - 1) F g hm W 0 (by omega) (by omega)
  rw [← col_0 W (W * H) (gdF_n g).1] at key
  refine sDo_of1 (nL := 5) (L := [some (.ref p), some (.int m), none, none, none]) hd rfl rfl ?_
  refine g_lconst (n := 0) rfl ?_
  show sGo none 29 _ 1 [some (.ref p), some (.int m), none, none, none] [.long (Int64.ofNat 0)] _ _
  refine g_lstore_n (i := 2) (L1 := [some (.ref p), some (.int m), some (.long (Int64.ofNat 0)), none, none]) rfl (Nat.le_of_ble_eq_true rfl) rfl ?_
  refine g_iconst (n := 0) rfl ?_
  refine g_istore (i := 4) (L1 := [some (.ref p), some (.int m), some (.long (Int64.ofNat 0)), none, some (.int (Int32.ofInt 0))]) rfl (Nat.le_of_ble_eq_true rfl) rfl ?_
  exact key
def rowS (W n M : Nat) : Int64 := stO (fun i => decide (i / W < M)) n
theorem low_and {x : Int32} {n X : Nat} {P : Nat → Bool} (hn : n ≤ 64) (hx : x.toInt = X) (hP : ∀ i, i < n → decide (i < X) = P i) : lowS x &&& stO (fun _ => true) n = stO P n := bt_ext (fun i hi => by
  rw [bt_and, bt_low hi, bt_stO _ _ hn, bt_stO _ _ hn, hx, Bool.and_true]
  by_cases e : i < n
  · rw [decide_eq_true e, Bool.and_true, Bool.true_and, ← hP i e]
    exact decide_eq_decide.mpr (by omega)
  · rw [decide_eq_false e, Bool.and_false, Bool.false_and])
theorem s_rowsBelow {d : Nat} {h : sHp} {p : Nat} {c : CF} {W H : Nat} {m : Int32} {M : Nat} (hd : 2 ≤ d) (F : FC h p c) (g : gdF c W H) (hm : m.toInt = M) (hM : M < 1000) : sDo d 28 [.ref p, .int m] h (fun r h' => h' = h ∧ r = some (.long (rowS W (W * H) M))) := by
  have gd := g
  obtain ⟨gw, gh, w2, w8, h2, h8, g2, g3, g4, g5, g6⟩ := gd
  have hn := gdF_n g
  have hw0 : (c.1 0).toInt = ((W : Nat) : Int) := by rw [gw]; exact ofN_toInt (by omega)
  have hw1 : (c.1 1).toInt = ((H : Nat) : Int) := by rw [gh]; exact ofN_toInt (by omega)
  have hwn : (c.1 0 * c.1 1).toInt = ((W * H : Nat) : Int) := n_mul hw0 hw1 (by omega)
  have hmw : (m * c.1 0).toInt = ((M * W : Nat) : Int) := n_mul hm hw0 (Nat.lt_of_le_of_lt (Nat.mul_le_mul (show M ≤ 1000 by omega) w8) (by decide))
  have hl := low_and (x := m * c.1 0) (P := fun i => decide (i / W < M)) hn.1 hmw (fun i _ => decide_eq_decide.mpr (Nat.div_lt_iff_lt_mul (by omega)).symm)
  refine sDo_of1 (nL := 2) (L := [some (.ref p), some (.int m)]) (by omega) rfl rfl ?_
  refine g_iload_n (i := 1) rfl rfl ?_
  refine g_aload_n (i := 0) rfl rfl ?_
  refine g_getfield (v := .int (c.1 0)) rfl F.1 (by decide) rfl ?_
  refine g_imul rfl ?_
  refine g_static1 (Qc := fun r h' => h' = h ∧ r = some (.long (lowS (m * (c.1 0))))) rfl (by decide) rfl (Nat.le_of_ble_eq_true rfl) (sDo_up (d := 1) (by omega) (s_lowest (d := 0))) (fun r h hq9 => ?_)
  obtain ⟨rfl, rfl⟩ := hq9
  refine g_aload_n (i := 0) rfl rfl ?_
  refine g_getfield (v := .long (c.2.1 2)) rfl F.1 (by decide) rfl ?_
  refine g_land rfl ?_
  refine g_lreturn rfl rfl ?_
  exact ⟨rfl, by rw [g2, hl]; rfl⟩
def corS (W n a b : Nat) : Int64 := stO (fun i => decide (i % W < a) && decide (i / W < b)) n
def benS (W n a b e : Nat) : Int64 := stO (fun i => decide (i % W < if i / W < b then a else e)) n
theorem st_and {P P' R : Nat → Bool} {n : Nat} (hn : n ≤ 64) (h : ∀ i, i < n → (P i && P' i) = R i) : stO P n &&& stO P' n = stO R n := bt_ext (fun i hi => by
  rw [bt_and, bt_stO _ _ hn, bt_stO _ _ hn, bt_stO _ _ hn]
  by_cases e : i < n
  · rw [decide_eq_true e, ← h i e, Bool.true_and, Bool.true_and, Bool.true_and]
  · rw [decide_eq_false e]; rfl)
theorem st_or {P P' R : Nat → Bool} {n : Nat} (hn : n ≤ 64) (h : ∀ i, i < n → (P i || P' i) = R i) : stO P n ||| stO P' n = stO R n := bt_ext (fun i hi => by
  rw [bt_or, bt_stO _ _ hn, bt_stO _ _ hn, bt_stO _ _ hn]
  by_cases e : i < n
  · rw [decide_eq_true e, ← h i e, Bool.true_and, Bool.true_and, Bool.true_and]
  · rw [decide_eq_false e]; rfl)
theorem st_andn {P P' R : Nat → Bool} {n : Nat} (hn : n ≤ 64) (h : ∀ i, i < n → (P i && !P' i) = R i) : stO P n &&& (stO P' n ^^^ lM1) = stO R n := bt_ext (fun i hi => by
  rw [bt_and, bt_not, bt_stO _ _ hn, bt_stO _ _ hn, bt_stO _ _ hn, decide_eq_true hi]
  by_cases e : i < n
  · rw [decide_eq_true e, ← h i e, Bool.true_and, Bool.true_and, Bool.true_and, Bool.true_and]
  · rw [decide_eq_false e]; rfl)
theorem bent_eq {W n a b e : Nat} (hn : n ≤ 64) : (colS W n a &&& rowS W n b) ||| (colS W n e &&& (rowS W n b ^^^ lM1)) = benS W n a b e := by
  unfold colS rowS benS
  rw [st_and (R := fun i => decide (i % W < a) && decide (i / W < b)) hn (fun i _ => rfl), st_andn (R := fun i => decide (i % W < e) && !decide (i / W < b)) hn (fun i _ => rfl)]
  refine st_or hn (fun i _ => ?_)
  by_cases h : i / W < b
  · rw [decide_eq_true h, if_pos h]; simp
  · rw [decide_eq_false h, if_neg h]; simp
theorem s_corner {d : Nat} {h : sHp} {p : Nat} {c : CF} {W H : Nat} {x y : Int32} {a b : Nat} (hd : 3 ≤ d) (F : FC h p c) (g : gdF c W H) (hx : x.toInt = a) (hy : y.toInt = b) (hb : b < 1000) : sDo d 30 [.ref p, .int x, .int y] h (fun r h' => h' = h ∧ r = some (.long (corS W (W * H) a b))) := by
  have hn := gdF_n g
  refine sDo_of1 (nL := 3) (L := [some (.ref p), some (.int x), some (.int y)]) (by omega) rfl rfl ?_
  refine g_aload_n (i := 0) rfl rfl ?_
  refine g_iload_n (i := 1) rfl rfl ?_
  refine g_virt1 (Qc := fun r h' => h' = h ∧ r = some (.long (colS W (W * H) (a)))) rfl (by decide) rfl F.1 rfl (Nat.le_of_ble_eq_true rfl) (s_columns (M := a) (by omega) F g hx) (fun r h hq9 => ?_)
  obtain ⟨rfl, rfl⟩ := hq9
  refine g_aload_n (i := 0) rfl rfl ?_
  refine g_iload_n (i := 2) rfl rfl ?_
  refine g_virt1 (Qc := fun r h' => h' = h ∧ r = some (.long (rowS W (W * H) (b)))) rfl (by decide) rfl F.1 rfl (Nat.le_of_ble_eq_true rfl) (s_rowsBelow (M := b) (by omega) F g hy (by omega)) (fun r h hq9 => ?_)
  obtain ⟨rfl, rfl⟩ := hq9
  refine g_land rfl ?_
  refine g_lreturn rfl rfl ?_
  exact ⟨rfl, congrArg (fun z => some (Value.long z)) (st_and hn.1 (fun i _ => rfl))⟩
theorem s_bent {d : Nat} {h : sHp} {p : Nat} {c : CF} {W H : Nat} {x y z : Int32} {a b e : Nat} (hd : 3 ≤ d) (F : FC h p c) (g : gdF c W H) (hx : x.toInt = a) (hy : y.toInt = b) (hz : z.toInt = e) (hb : b < 1000) : sDo d 31 [.ref p, .int x, .int y, .int z] h (fun r h' => h' = h ∧ r = some (.long (benS W (W * H) a b e))) := by
  have hn := gdF_n g
  refine sDo_of1 (nL := 6) (L := [some (.ref p), some (.int x), some (.int y), some (.int z), none, none]) (by omega) rfl rfl ?_
  refine g_aload_n (i := 0) rfl rfl ?_
  refine g_iload_n (i := 2) rfl rfl ?_
  refine g_virt1 (Qc := fun r h' => h' = h ∧ r = some (.long (rowS W (W * H) (b)))) rfl (by decide) rfl F.1 rfl (Nat.le_of_ble_eq_true rfl) (s_rowsBelow (M := b) (by omega) F g hy (by omega)) (fun r h hq9 => ?_)
  obtain ⟨rfl, rfl⟩ := hq9
  refine g_lstore (i := 4) (L1 := [some (.ref p), some (.int x), some (.int y), some (.int z), some (.long (rowS W (W * H) (b))), none]) rfl (Nat.le_of_ble_eq_true rfl) rfl ?_
  refine g_aload_n (i := 0) rfl rfl ?_
  refine g_iload_n (i := 1) rfl rfl ?_
  refine g_virt1 (Qc := fun r h' => h' = h ∧ r = some (.long (colS W (W * H) (a)))) rfl (by decide) rfl F.1 rfl (Nat.le_of_ble_eq_true rfl) (s_columns (M := a) (by omega) F g hx) (fun r h hq9 => ?_)
  obtain ⟨rfl, rfl⟩ := hq9
  refine g_lload (i := 4) rfl rfl ?_
  refine g_land rfl ?_
  refine g_aload_n (i := 0) rfl rfl ?_
  refine g_iload_n (i := 3) rfl rfl ?_
  refine g_virt1 (Qc := fun r h' => h' = h ∧ r = some (.long (colS W (W * H) (e)))) rfl (by decide) rfl F.1 rfl (Nat.le_of_ble_eq_true rfl) (s_columns (M := e) (by omega) F g hz) (fun r h hq9 => ?_)
  obtain ⟨rfl, rfl⟩ := hq9
  refine g_lload (i := 4) rfl rfl ?_
  refine g_ldc2_w (j := 18446744073709551615) rfl ?_
  refine g_lxor rfl ?_
  refine g_land rfl ?_
  refine g_lor rfl ?_
  refine g_lreturn rfl rfl ?_
  exact ⟨rfl, congrArg (fun z => some (Value.long z)) (bent_eq hn.1)⟩
/-- is a square FIRST by a code -/
def isF (W C q : Nat) : Bool := match C / 1000 with
  | 0 => decide (q < 8 * (C / 100 % 10) + C / 10 % 10)
  | 4 => decide (q / W < C / 100 % 10)
  | 5 => decide (q % W < C / 100 % 10) && decide (q / W < C / 10 % 10)
  | 2 => decide (q % W < if q / W < C / 10 % 10 then C / 100 % 10 else C % 10)
  | 6 => !decide (q % W < if q / W < C / 10 % 10 then C / 100 % 10 else C % 10)
  | _ => decide (q % W < C / 100 % 10)
def fsS (W n C : Nat) : Int64 := stO (isF W C) n
theorem fsS_0 {W n C : Nat} (h : C / 1000 = 0) : fsS W n C = stO (fun q => decide (q < 8 * (C / 100 % 10) + C / 10 % 10)) n := by unfold fsS isF; rw [h]; rfl
theorem fsS_4 {W n C : Nat} (h : C / 1000 = 4) : fsS W n C = rowS W n (C / 100 % 10) := by unfold fsS isF; rw [h]; rfl
theorem fsS_5 {W n C : Nat} (h : C / 1000 = 5) : fsS W n C = corS W n (C / 100 % 10) (C / 10 % 10) := by unfold fsS isF; rw [h]; rfl
theorem fsS_2 {W n C : Nat} (h : C / 1000 = 2) : fsS W n C = benS W n (C / 100 % 10) (C / 10 % 10) (C % 10) := by unfold fsS isF; rw [h]; rfl
theorem fsS_6 {W n C : Nat} (h : C / 1000 = 6) : fsS W n C = stO (fun q => !decide (q % W < if q / W < C / 10 % 10 then C / 100 % 10 else C % 10)) n := by unfold fsS isF; rw [h]; rfl
theorem fsS_1 {W n C : Nat} (h : C / 1000 = 1) : fsS W n C = colS W n (C / 100 % 10) := by unfold fsS isF; rw [h]; rfl
theorem fsS_3 {W n C : Nat} (h : C / 1000 = 3) : fsS W n C = colS W n (C / 100 % 10) := by unfold fsS isF; rw [h]; rfl
theorem s_fst0 {d : Nat} {h : sHp} {p : Nat} {c : CF} {W H : Nat} {s x : Int32} {C q : Nat} (hd : 4 ≤ d) (F : FC h p c) (g : gdF c W H) (a : h[q]? = some (.inr (2, cutFs s x))) (hx : x.toInt = C) (hk : C / 1000 = 0) : sDo d 11 [.ref q, .ref p] h (fun r h' => h' = h ∧ r = some (.long (fsS W (W * H) C))) := by
  have hn := gdF_n g
  have gd := g
  obtain ⟨gw, gh, w2, w8, h2, h8, g2, g3, g4, g5, g6⟩ := gd
  have hn := gdF_n g
  have hw0 : (c.1 0).toInt = ((W : Nat) : Int) := by rw [gw]; exact ofN_toInt (by omega)
  have hw1 : (c.1 1).toInt = ((H : Nat) : Int) := by rw [gh]; exact ofN_toInt (by omega)
  have hwn : (c.1 0 * c.1 1).toInt = ((W * H : Nat) : Int) := n_mul hw0 hw1 (by omega)
  have e8 : ((Int8.ofInt 8).toInt32 * cD x (Int8.ofInt 100).toInt32).toInt = ((8 * (C / 100 % 10) : Nat) : Int) := n_mul (show (Int8.ofInt 8).toInt32.toInt = ((8 : Nat) : Int) from rfl) (cD_100 hx) (by omega)
  have e9 : ((Int8.ofInt 8).toInt32 * cD x (Int8.ofInt 100).toInt32 + cD x (Int8.ofInt 10).toInt32).toInt = ((8 * (C / 100 % 10) + C / 10 % 10 : Nat) : Int) := by rw [i_add (by rw [e8, cD_10 hx]; omega) (by rw [e8, cD_10 hx]; omega), e8, cD_10 hx]; omega
  refine sDo_of1 (nL := 2) (L := [some (.ref q), some (.ref p)]) (by omega) rfl rfl ?_
  refine g_aload_n (i := 1) rfl rfl ?_
  refine g_bipush (n := 8) rfl ?_
  refine g_aload_n (i := 0) rfl rfl ?_
  refine g_getfield (v := .int (cD x (Int8.ofInt 100).toInt32)) rfl a (by decide) rfl ?_
  refine g_imul rfl ?_
  refine g_aload_n (i := 0) rfl rfl ?_
  refine g_getfield (v := .int (cD x (Int8.ofInt 10).toInt32)) rfl a (by decide) rfl ?_
  refine g_iadd rfl ?_
  refine g_virt1 (Qc := fun r h' => h' = h ∧ r = some (.long (lowS (((Int8.ofInt 8).toInt32 * (cD x (Int8.ofInt 100).toInt32)) + (cD x (Int8.ofInt 10).toInt32)) &&& c.2.1 2))) rfl (by decide) rfl F.1 rfl (Nat.le_of_ble_eq_true rfl) (sDo_up (d := 2) (by omega) (s_below (d := 0) F)) (fun r h hq9 => ?_)
  obtain ⟨rfl, rfl⟩ := hq9
  refine g_lreturn rfl rfl ?_
  exact ⟨rfl, by rw [fsS_0 hk, g2, low_and hn.1 e9 (fun i _ => rfl)]⟩
theorem s_fst1 {d : Nat} {h : sHp} {p : Nat} {c : CF} {W H : Nat} {s x : Int32} {C q : Nat} (hd : 4 ≤ d) (F : FC h p c) (g : gdF c W H) (a : h[q]? = some (.inr (9, cutFs s x))) (hx : x.toInt = C) (hk : C / 1000 = 1) : sDo d 106 [.ref q, .ref p] h (fun r h' => h' = h ∧ r = some (.long (fsS W (W * H) C))) := by
  have hn := gdF_n g
  refine sDo_of1 (nL := 2) (L := [some (.ref q), some (.ref p)]) (by omega) rfl rfl ?_
  refine g_aload_n (i := 1) rfl rfl ?_
  refine g_aload_n (i := 0) rfl rfl ?_
  refine g_getfield (v := .int (cD x (Int8.ofInt 100).toInt32)) rfl a (by decide) rfl ?_
  refine g_virt1 (Qc := fun r h' => h' = h ∧ r = some (.long (colS W (W * H) (C / 100 % 10)))) rfl (by decide) rfl F.1 rfl (Nat.le_of_ble_eq_true rfl) (s_columns (M := C / 100 % 10) (by omega) F g (cD_100 hx)) (fun r h hq9 => ?_)
  obtain ⟨rfl, rfl⟩ := hq9
  refine g_lreturn rfl rfl ?_
  exact ⟨rfl, by rw [fsS_1 hk]⟩
theorem s_fst2 {d : Nat} {h : sHp} {p : Nat} {c : CF} {W H : Nat} {s x : Int32} {C q : Nat} (hd : 4 ≤ d) (F : FC h p c) (g : gdF c W H) (a : h[q]? = some (.inr (1, cutFs s x))) (hx : x.toInt = C) (hk : C / 1000 = 2) : sDo d 7 [.ref q, .ref p] h (fun r h' => h' = h ∧ r = some (.long (fsS W (W * H) C))) := by
  have hn := gdF_n g
  refine sDo_of1 (nL := 2) (L := [some (.ref q), some (.ref p)]) (by omega) rfl rfl ?_
  refine g_aload_n (i := 1) rfl rfl ?_
  refine g_aload_n (i := 0) rfl rfl ?_
  refine g_getfield (v := .int (cD x (Int8.ofInt 100).toInt32)) rfl a (by decide) rfl ?_
  refine g_aload_n (i := 0) rfl rfl ?_
  refine g_getfield (v := .int (cD x (Int8.ofInt 10).toInt32)) rfl a (by decide) rfl ?_
  refine g_aload_n (i := 0) rfl rfl ?_
  refine g_getfield (v := .int (cD1 x)) rfl a (by decide) rfl ?_
  refine g_virt3 (Qc := fun r h' => h' = h ∧ r = some (.long (benS W (W * H) (C / 100 % 10) (C / 10 % 10) (C % 10)))) rfl (by decide) rfl F.1 rfl (Nat.le_of_ble_eq_true rfl) (s_bent (by omega) F g (cD_100 hx) (cD_10 hx) (cD_1 hx) (by omega)) (fun r h hq9 => ?_)
  obtain ⟨rfl, rfl⟩ := hq9
  refine g_lreturn rfl rfl ?_
  exact ⟨rfl, by rw [fsS_2 hk]⟩
theorem s_fst3 {d : Nat} {h : sHp} {p : Nat} {c : CF} {W H : Nat} {s x : Int32} {C q : Nat} (hd : 4 ≤ d) (F : FC h p c) (g : gdF c W H) (a : h[q]? = some (.inr (5, cutFs s x))) (hx : x.toInt = C) (hk : C / 1000 = 3) : sDo d 61 [.ref q, .ref p] h (fun r h' => h' = h ∧ r = some (.long (fsS W (W * H) C))) := by
  have hn := gdF_n g
  refine sDo_of1 (nL := 2) (L := [some (.ref q), some (.ref p)]) (by omega) rfl rfl ?_
  refine g_aload_n (i := 1) rfl rfl ?_
  refine g_aload_n (i := 0) rfl rfl ?_
  refine g_getfield (v := .int (cD x (Int8.ofInt 100).toInt32)) rfl a (by decide) rfl ?_
  refine g_virt1 (Qc := fun r h' => h' = h ∧ r = some (.long (colS W (W * H) (C / 100 % 10)))) rfl (by decide) rfl F.1 rfl (Nat.le_of_ble_eq_true rfl) (s_columns (M := C / 100 % 10) (by omega) F g (cD_100 hx)) (fun r h hq9 => ?_)
  obtain ⟨rfl, rfl⟩ := hq9
  refine g_lreturn rfl rfl ?_
  exact ⟨rfl, by rw [fsS_3 hk]⟩
theorem s_fst4 {d : Nat} {h : sHp} {p : Nat} {c : CF} {W H : Nat} {s x : Int32} {C q : Nat} (hd : 4 ≤ d) (F : FC h p c) (g : gdF c W H) (a : h[q]? = some (.inr (0, cutFs s x))) (hx : x.toInt = C) (hk : C / 1000 = 4) : sDo d 2 [.ref q, .ref p] h (fun r h' => h' = h ∧ r = some (.long (fsS W (W * H) C))) := by
  have hn := gdF_n g
  refine sDo_of1 (nL := 2) (L := [some (.ref q), some (.ref p)]) (by omega) rfl rfl ?_
  refine g_aload_n (i := 1) rfl rfl ?_
  refine g_aload_n (i := 0) rfl rfl ?_
  refine g_getfield (v := .int (cD x (Int8.ofInt 100).toInt32)) rfl a (by decide) rfl ?_
  refine g_virt1 (Qc := fun r h' => h' = h ∧ r = some (.long (rowS W (W * H) (C / 100 % 10)))) rfl (by decide) rfl F.1 rfl (Nat.le_of_ble_eq_true rfl) (s_rowsBelow (M := C / 100 % 10) (by omega) F g (cD_100 hx) (by omega)) (fun r h hq9 => ?_)
  obtain ⟨rfl, rfl⟩ := hq9
  refine g_lreturn rfl rfl ?_
  exact ⟨rfl, by rw [fsS_4 hk]⟩
theorem s_fst5 {d : Nat} {h : sHp} {p : Nat} {c : CF} {W H : Nat} {s x : Int32} {C q : Nat} (hd : 4 ≤ d) (F : FC h p c) (g : gdF c W H) (a : h[q]? = some (.inr (4, cutFs s x))) (hx : x.toInt = C) (hk : C / 1000 = 5) : sDo d 57 [.ref q, .ref p] h (fun r h' => h' = h ∧ r = some (.long (fsS W (W * H) C))) := by
  have hn := gdF_n g
  refine sDo_of1 (nL := 2) (L := [some (.ref q), some (.ref p)]) (by omega) rfl rfl ?_
  refine g_aload_n (i := 1) rfl rfl ?_
  refine g_aload_n (i := 0) rfl rfl ?_
  refine g_getfield (v := .int (cD x (Int8.ofInt 100).toInt32)) rfl a (by decide) rfl ?_
  refine g_aload_n (i := 0) rfl rfl ?_
  refine g_getfield (v := .int (cD x (Int8.ofInt 10).toInt32)) rfl a (by decide) rfl ?_
  refine g_virt2 (Qc := fun r h' => h' = h ∧ r = some (.long (corS W (W * H) (C / 100 % 10) (C / 10 % 10)))) rfl (by decide) rfl F.1 rfl (Nat.le_of_ble_eq_true rfl) (s_corner (by omega) F g (cD_100 hx) (cD_10 hx) (by omega)) (fun r h hq9 => ?_)
  obtain ⟨rfl, rfl⟩ := hq9
  refine g_lreturn rfl rfl ?_
  exact ⟨rfl, by rw [fsS_5 hk]⟩
theorem s_fst6 {d : Nat} {h : sHp} {p : Nat} {c : CF} {W H : Nat} {s x : Int32} {C q : Nat} (hd : 4 ≤ d) (F : FC h p c) (g : gdF c W H) (a : h[q]? = some (.inr (10, cutFs s x))) (hx : x.toInt = C) (hk : C / 1000 = 6) : sDo d 110 [.ref q, .ref p] h (fun r h' => h' = h ∧ r = some (.long (fsS W (W * H) C))) := by
  have hn := gdF_n g
  have gd := g
  obtain ⟨gw, gh, w2, w8, h2, h8, g2, g3, g4, g5, g6⟩ := gd
  have hn := gdF_n g
  have hw0 : (c.1 0).toInt = ((W : Nat) : Int) := by rw [gw]; exact ofN_toInt (by omega)
  have hw1 : (c.1 1).toInt = ((H : Nat) : Int) := by rw [gh]; exact ofN_toInt (by omega)
  have hwn : (c.1 0 * c.1 1).toInt = ((W * H : Nat) : Int) := n_mul hw0 hw1 (by omega)
  refine sDo_of1 (nL := 2) (L := [some (.ref q), some (.ref p)]) (by omega) rfl rfl ?_
  refine g_aload_n (i := 1) rfl rfl ?_
  refine g_getfield (v := .long (c.2.1 2)) rfl F.1 (by decide) rfl ?_
  refine g_aload_n (i := 1) rfl rfl ?_
  refine g_aload_n (i := 0) rfl rfl ?_
  refine g_getfield (v := .int (cD x (Int8.ofInt 100).toInt32)) rfl a (by decide) rfl ?_
  refine g_aload_n (i := 0) rfl rfl ?_
  refine g_getfield (v := .int (cD x (Int8.ofInt 10).toInt32)) rfl a (by decide) rfl ?_
  refine g_aload_n (i := 0) rfl rfl ?_
  refine g_getfield (v := .int (cD1 x)) rfl a (by decide) rfl ?_
  refine g_virt3 (Qc := fun r h' => h' = h ∧ r = some (.long (benS W (W * H) (C / 100 % 10) (C / 10 % 10) (C % 10)))) rfl (by decide) rfl F.1 rfl (Nat.le_of_ble_eq_true rfl) (s_bent (by omega) F g (cD_100 hx) (cD_10 hx) (cD_1 hx) (by omega)) (fun r h hq9 => ?_)
  obtain ⟨rfl, rfl⟩ := hq9
  refine g_ldc2_w (j := 18446744073709551615) rfl ?_
  refine g_lxor rfl ?_
  refine g_land rfl ?_
  refine g_lreturn rfl rfl ?_
  exact ⟨rfl, by rw [fsS_6 hk, g2]; exact congrArg (fun z => some (Value.long z)) (st_andn hn.1 (fun i _ => by rw [Bool.true_and]))⟩
def lnS (W n C : Nat) : Int64 := stO (fun q => decide (C / 1000 = 3) && decide (q % W = C / 100 % 10)) n
theorem lnS_n {W n C : Nat} (hn : n ≤ 64) (h : ¬ C / 1000 = 3) : lnS W n C = Int64.ofNat 0 := bt_ext (fun i hi => by
  unfold lnS
  rw [bt_stO _ _ hn, decide_eq_false h, bt_0, Bool.false_and, Bool.and_false])
theorem s_ln0 {d : Nat} {h : sHp} {p q W n C : Nat} (hd : 1 ≤ d) (hn : n ≤ 64) (hk : ¬ C / 1000 = 3) : sDo d 12 [.ref q, .ref p] h (fun r h' => h' = h ∧ r = some (.long (lnS W n C))) := by
  rw [lnS_n hn hk]
  refine sDo_of1 (nL := 2) (L := [some (.ref q), some (.ref p)]) (by omega) rfl rfl ?_
  refine g_lconst (n := 0) rfl ?_
  show sGo none 12 _ 1 [some (.ref q), some (.ref p)] [.long (Int64.ofNat 0)] _ _
  refine g_lreturn rfl rfl ?_
  exact ⟨rfl, rfl⟩
theorem s_ln3 {d : Nat} {h : sHp} {p : Nat} {c : CF} {W H : Nat} {s x : Int32} {C q : Nat} (hd : 3 ≤ d) (F : FC h p c) (g : gdF c W H) (a : h[q]? = some (.inr (5, cutFs s x))) (hx : x.toInt = C) (hk : C / 1000 = 3) : sDo d 62 [.ref q, .ref p] h (fun r h' => h' = h ∧ r = some (.long (lnS W (W * H) C))) := by
  have hn := gdF_n g
  have ha := cD_100 hx
  refine sDo_of1 (nL := 2) (L := [some (.ref q), some (.ref p)]) (by omega) rfl rfl ?_
  refine g_aload_n (i := 1) rfl rfl ?_
  refine g_aload_n (i := 0) rfl rfl ?_
  refine g_getfield (v := .int (cD x (Int8.ofInt 100).toInt32)) rfl a (by decide) rfl ?_
  refine g_iconst (n := 1) rfl ?_
  have k_1 : (Int32.ofInt 1).toInt = 1 := rfl
  refine g_iadd rfl ?_
  have t_2 : ((cD x (Int8.ofInt 100).toInt32) + (Int32.ofInt 1)).toInt = ((C / 100 % 10 + 1 : Nat) : Int) := by rw [i_add (by rw [ha, k_1]; omega) (by rw [ha, k_1]; omega), ha, k_1]; omega
  refine g_virt1 (Qc := fun r h' => h' = h ∧ r = some (.long (colS W (W * H) (C / 100 % 10 + 1)))) rfl (by decide) rfl F.1 rfl (Nat.le_of_ble_eq_true rfl) (s_columns (M := C / 100 % 10 + 1) (by omega) F g t_2) (fun r h hq9 => ?_)
  obtain ⟨rfl, rfl⟩ := hq9
  refine g_aload_n (i := 1) rfl rfl ?_
  refine g_aload_n (i := 0) rfl rfl ?_
  refine g_getfield (v := .int (cD x (Int8.ofInt 100).toInt32)) rfl a (by decide) rfl ?_
  refine g_virt1 (Qc := fun r h' => h' = h ∧ r = some (.long (colS W (W * H) (C / 100 % 10)))) rfl (by decide) rfl F.1 rfl (Nat.le_of_ble_eq_true rfl) (s_columns (M := C / 100 % 10) (by omega) F g ha) (fun r h hq9 => ?_)
  obtain ⟨rfl, rfl⟩ := hq9
  refine g_ldc2_w (j := 18446744073709551615) rfl ?_
  refine g_lxor rfl ?_
  refine g_land rfl ?_
  refine g_lreturn rfl rfl ?_
  refine ⟨rfl, congrArg (fun z => some (Value.long z)) (st_andn hn.1 (fun i _ => ?_))⟩
  rw [decide_eq_true hk, Bool.true_and]
  by_cases h1 : i % W = C / 100 % 10
  · rw [decide_eq_true h1, decide_eq_true (show i % W < C / 100 % 10 + 1 by omega), decide_eq_false (show ¬ i % W < C / 100 % 10 by omega)]; rfl
  · rw [decide_eq_false h1]
    by_cases h2 : i % W < C / 100 % 10
    · rw [decide_eq_true h2, Bool.not_true, Bool.and_false]
    · rw [decide_eq_false h2, decide_eq_false (show ¬ i % W < C / 100 % 10 + 1 by omega), Bool.false_and]
theorem fam_f {d : Nat} {h : sHp} {p : Nat} {c : CF} {W H : Nat} {s x : Int32} {C q : Nat} {ci : Nat} (hd : 4 ≤ d) (F : FC h p c) (g : gdF c W H) (hc : C < 7000) (hci : ci = bKl7 (C / 1000)) (a : h[q]? = some (.inr (ci, cutFs s x))) (hx : x.toInt = C) : sDo d (sVt 1001 ci) [.ref q, .ref p] h (fun r h' => h' = h ∧ r = some (.long (fsS W (W * H) C))) := by
  subst hci
  rcases (show C / 1000 = 0 ∨ C / 1000 = 1 ∨ C / 1000 = 2 ∨ C / 1000 = 3 ∨ C / 1000 = 4 ∨ C / 1000 = 5 ∨ C / 1000 = 6 by omega) with k | k | k | k | k | k | k
  · rw [k] at a ⊢
    exact s_fst0 hd F g a hx k
  · rw [k] at a ⊢
    exact s_fst1 hd F g a hx k
  · rw [k] at a ⊢
    exact s_fst2 hd F g a hx k
  · rw [k] at a ⊢
    exact s_fst3 hd F g a hx k
  · rw [k] at a ⊢
    exact s_fst4 hd F g a hx k
  · rw [k] at a ⊢
    exact s_fst5 hd F g a hx k
  · rw [k] at a ⊢
    exact s_fst6 hd F g a hx k
theorem fam_l {d : Nat} {h : sHp} {p : Nat} {c : CF} {W H : Nat} {s x : Int32} {C q : Nat} {ci : Nat} (hd : 3 ≤ d) (F : FC h p c) (g : gdF c W H) (hc : C < 7000) (hci : ci = bKl7 (C / 1000)) (a : h[q]? = some (.inr (ci, cutFs s x))) (hx : x.toInt = C) : sDo d (sVt 1002 ci) [.ref q, .ref p] h (fun r h' => h' = h ∧ r = some (.long (lnS W (W * H) C))) := by
  subst hci
  rcases (show C / 1000 = 0 ∨ C / 1000 = 1 ∨ C / 1000 = 2 ∨ C / 1000 = 3 ∨ C / 1000 = 4 ∨ C / 1000 = 5 ∨ C / 1000 = 6 by omega) with k | k | k | k | k | k | k
  · rw [k] at a ⊢
    exact s_ln0 (by omega) (gdF_n g).1 (by omega)
  · rw [k] at a ⊢
    exact s_ln0 (by omega) (gdF_n g).1 (by omega)
  · rw [k] at a ⊢
    exact s_ln0 (by omega) (gdF_n g).1 (by omega)
  · rw [k] at a ⊢
    exact s_ln3 hd F g a hx k
  · rw [k] at a ⊢
    exact s_ln0 (by omega) (gdF_n g).1 (by omega)
  · rw [k] at a ⊢
    exact s_ln0 (by omega) (gdF_n g).1 (by omega)
  · rw [k] at a ⊢
    exact s_ln0 (by omega) (gdF_n g).1 (by omega)
/-- 2 the lane, 0 FIRST, 1 SECOND -/
def sdC (W C q : Nat) : Nat := if C / 1000 = 3 ∧ q % W = C / 100 % 10 then 2 else if isF W C q = true then 0 else 1
def sdS (W n C : Nat) (side : Int) : Int64 := stO (fun q => decide ((sdC W C q : Int) = side)) n
theorem lane_nf {W C q : Nat} (h3 : C / 1000 = 3) (hq : q % W = C / 100 % 10) : isF W C q = false := by
  unfold isF
  rw [h3]
  exact decide_eq_false (by omega)
theorem sdS_0 {W n C : Nat} (hn : n ≤ 64) : fsS W n C = sdS W n C 0 := stO_congr hn (fun q _ => by
  unfold sdC
  by_cases h : C / 1000 = 3 ∧ q % W = C / 100 % 10
  · rw [if_pos h, lane_nf h.1 h.2]; rfl
  · rw [if_neg h]
    cases isF W C q <;> rfl)
theorem sdS_1 {W n C : Nat} (hn : n ≤ 64) : stO (fun _ => true) n &&& (fsS W n C ^^^ lM1) &&& (lnS W n C ^^^ lM1) = sdS W n C 1 := by
  unfold fsS lnS sdS
  rw [st_andn (R := fun q => !isF W C q) hn (fun q _ => Bool.true_and _)]
  refine st_andn hn (fun q _ => ?_)
  unfold sdC
  by_cases h : C / 1000 = 3 ∧ q % W = C / 100 % 10
  · rw [if_pos h, decide_eq_true h.1, decide_eq_true h.2, Bool.true_and, Bool.not_true, Bool.and_false]; rfl
  · rw [if_neg h]
    have e : (decide (C / 1000 = 3) && decide (q % W = C / 100 % 10)) = false := by
      rw [← Bool.decide_and]; exact decide_eq_false h
    rw [e]
    cases isF W C q <;> rfl
theorem sdS_2 {W n C : Nat} (hn : n ≤ 64) : lnS W n C = sdS W n C 2 := stO_congr hn (fun q _ => by
  unfold sdC
  by_cases h : C / 1000 = 3 ∧ q % W = C / 100 % 10
  · rw [if_pos h, decide_eq_true h.1, decide_eq_true h.2]; rfl
  · rw [if_neg h]
    have e : (decide (C / 1000 = 3) && decide (q % W = C / 100 % 10)) = false := by
      rw [← Bool.decide_and]; exact decide_eq_false h
    rw [e]
    cases isF W C q <;> rfl)
theorem sdC_le (W C q : Nat) : sdC W C q ≤ 2 := by
  unfold sdC
  split
  · exact Nat.le_refl 2
  · split <;> decide
theorem sdS_o {W n C : Nat} {side : Int} (hn : n ≤ 64) (hs : side < 0 ∨ 2 < side) : Int64.ofNat 0 = sdS W n C side := stO_of hn (fun i hi => by
  have := sdC_le W C i
  rw [bt_0, decide_eq_false (show ¬ ((sdC W C i : Int) = side) by omega), Bool.and_false])
theorem s_sideOf11 {d : Nat} {h : sHp} {c : CF} {W H : Nat} {s x : Int32} {C q : Nat} {ci : Nat} {fs : List Value} {side : Int32} (hd : 5 ≤ d) (h0 : h[0]? = some (.inr (11, fs))) (f3 : fs[3]? = some (.ref 5)) (F : FC h 5 c) (g : gdF c W H) (hc : C < 7000) (hci : ci = bKl7 (C / 1000)) (a : h[q]? = some (.inr (ci, cutFs s x))) (hx : x.toInt = C) : sDo d 165 [.ref 0, .ref q, .int side] h (fun r h' => h' = h ∧ r = some (.long (sdS W (W * H) C side.toInt))) := by
  have hg : sGrp ci = 2 ∧ ci < 11 := by
    subst hci
    rcases (show C / 1000 = 0 ∨ C / 1000 = 1 ∨ C / 1000 = 2 ∨ C / 1000 = 3 ∨ C / 1000 = 4 ∨ C / 1000 = 5 ∨ C / 1000 = 6 by omega) with k | k | k | k | k | k | k <;> (rw [k]; decide)
  have gd := g
  obtain ⟨gw, gh, w2, w8, h2, h8, g2, g3, g4, g5, g6⟩ := gd
  have hn := gdF_n g
  have hw0 : (c.1 0).toInt = ((W : Nat) : Int) := by rw [gw]; exact ofN_toInt (by omega)
  have hw1 : (c.1 1).toInt = ((H : Nat) : Int) := by rw [gh]; exact ofN_toInt (by omega)
  have hwn : (c.1 0 * c.1 1).toInt = ((W * H : Nat) : Int) := n_mul hw0 hw1 (by omega)
  refine sDo_of1 (nL := 7) (L := [some (.ref 0), some (.ref q), some (.int side), none, none, none, none]) (by omega) rfl rfl ?_
  refine g_aload_n (i := 1) rfl rfl ?_
  refine g_aload_n (i := 0) rfl rfl ?_
  refine g_getfield (v := .ref 5) rfl h0 (by decide) f3 ?_
  refine g_fam (Qc := fun r h' => h' = h ∧ r = some (.long (fsS W (W * H) C))) rfl (by decide) a hg (Nat.le_of_ble_eq_true rfl) (fam_f (by omega) F g hc hci a hx) (fun r h hq9 => ?_)
  obtain ⟨rfl, rfl⟩ := hq9
  refine g_lstore_n (i := 3) (L1 := [some (.ref 0), some (.ref q), some (.int side), some (.long (fsS W (W * H) C)), none, none, none]) rfl (Nat.le_of_ble_eq_true rfl) rfl ?_
  refine g_aload_n (i := 1) rfl rfl ?_
  refine g_aload_n (i := 0) rfl rfl ?_
  refine g_getfield (v := .ref 5) rfl h0 (by decide) f3 ?_
  refine g_fam (Qc := fun r h' => h' = h ∧ r = some (.long (lnS W (W * H) C))) rfl (by decide) a hg (Nat.le_of_ble_eq_true rfl) (fam_l (by omega) F g hc hci a hx) (fun r h hq9 => ?_)
  obtain ⟨rfl, rfl⟩ := hq9
  refine g_lstore (i := 5) (L1 := [some (.ref 0), some (.ref q), some (.int side), some (.long (fsS W (W * H) C)), none, some (.long (lnS W (W * H) C)), none]) rfl (Nat.le_of_ble_eq_true rfl) rfl ?_
  refine g_iload_n (i := 2) rfl rfl ?_
  rcases (show side.toInt = 0 ∨ side.toInt = 1 ∨ side.toInt = 2 ∨ (side.toInt < 0 ∨ 2 < side.toInt) by omega) with hs | hs | hs | hs
  · skip
    refine g_tsIn 0 48 rfl (by omega) (by rw [hs]; rfl) rfl rfl ?_
    refine g_lload_n (i := 3) rfl rfl ?_
    refine g_lreturn rfl rfl ?_
    exact ⟨rfl, by rw [hs, sdS_0 hn.1]⟩
  · skip
    refine g_tsIn 1 50 rfl (by omega) (by rw [hs]; rfl) rfl rfl ?_
    refine g_aload_n (i := 0) rfl rfl ?_
    refine g_getfield (v := .ref 5) rfl h0 (by decide) f3 ?_
    refine g_getfield (v := .long (c.2.1 2)) rfl F.1 (by decide) rfl ?_
    refine g_lload_n (i := 3) rfl rfl ?_
    refine g_ldc2_w (j := 18446744073709551615) rfl ?_
    refine g_lxor rfl ?_
    refine g_land rfl ?_
    refine g_lload (i := 5) rfl rfl ?_
    refine g_ldc2_w (j := 18446744073709551615) rfl ?_
    refine g_lxor rfl ?_
    refine g_land rfl ?_
    refine g_lreturn rfl rfl ?_
    exact ⟨rfl, by rw [hs, g2, sdS_1 hn.1]⟩
  · skip
    refine g_tsIn 2 71 rfl (by omega) (by rw [hs]; rfl) rfl rfl ?_
    refine g_lload (i := 5) rfl rfl ?_
    refine g_lreturn rfl rfl ?_
    exact ⟨rfl, by rw [hs, sdS_2 hn.1]⟩
  · skip
    refine g_tsOut 74 rfl (by omega) rfl ?_
    refine g_lconst (n := 0) rfl ?_
    show sGo none 165 _ 75 [some (.ref 0), some (.ref q), some (.int side), some (.long (fsS W (W * H) C)), none, some (.long (lnS W (W * H) C)), none] [.long (Int64.ofNat 0)] _ _
    refine g_lreturn rfl rfl ?_
    exact ⟨rfl, congrArg (fun z => some (Value.long z)) (sdS_o hn.1 hs)⟩
end
section
/-! ===== the reference's sets and cuts, exactly ===== -/
def gdM (J : Nat → Int32) (W H : Nat) : Prop := J 0 = Int32.ofNat W ∧ J 1 = Int32.ofNat H ∧ 2 ≤ W ∧ W ≤ 8 ∧ 2 ≤ H ∧ H ≤ 8
theorem gdM_n {J : Nat → Int32} {W H : Nat} (g : gdM J W H) : W * H ≤ 64 ∧ 4 ≤ W * H := ⟨wh_le8 g.2.2.2.1 g.2.2.2.2.2, wh_ge4 g.2.2.1 g.2.2.2.2.1⟩
theorem s_hasE {d : Nat} {h : sHp} {J : Nat → Int32} {x : Int64} {k : Nat} (hd : 1 ≤ d) (hr : h[60]? = some (mO J)) (hk : k < 64) : sDo d 177 [.ref 60, .long x, .int (Int32.ofNat k)] h (fun r h' => h' = h ∧ r = some (.int (zI (bt x k = true)))) := by
  have hb := bt_has hk x
  refine sDo_of1 (nL := 4) (L := [some (.ref 60), some (.long x), none, some (.int (Int32.ofNat k))]) (by omega) rfl rfl ?_
  refine g_lload_n (i := 1) rfl rfl ?_
  refine g_iload_n (i := 3) rfl rfl ?_
  refine g_lshr rfl ?_
  refine g_lconst (n := 1) rfl ?_
  show sGo none 177 _ 4 [some (.ref 60), some (.long x), none, some (.int (Int32.ofNat k))] [.long (Int64.ofNat 1), .long (x >>> ((Int32.ofNat k).toInt64 &&& 63))] _ _
  refine g_land rfl ?_
  refine g_lconst (n := 1) rfl ?_
  show sGo none 177 _ 6 [some (.ref 60), some (.long x), none, some (.int (Int32.ofNat k))] [.long (Int64.ofNat 1), .long ((x >>> ((Int32.ofNat k).toInt64 &&& 63)) &&& (Int64.ofNat 1))] _ _
  refine g_lcmp rfl ?_
  refine g_if_ne 14 rfl rfl (fun c_1 => ?_) (fun c_1 => ?_)
  · skip
    rw [lc_eq] at c_1
    refine g_iconst (n := 0) rfl ?_
    refine g_ireturn (ty := .boolean) rfl rfl (by decide) ?_
    have hb1 : ¬ bt x k = true := fun z => c_1 (by rw [hb, if_pos z])
    exact ⟨rfl, by rw [zI_neg hb1]; rfl⟩
  · skip
    rw [lc_eq] at c_1
    refine g_iconst (n := 1) rfl ?_
    refine g_goto 15 rfl rfl ?_
    refine g_ireturn (ty := .boolean) rfl rfl (by decide) ?_
    have hb1 : bt x k = true := by
      by_cases z : bt x k = true
      · exact z
      · rw [hb, if_neg z] at c_1
        exact absurd c_1 (by decide)
    exact ⟨rfl, by rw [zI_pos hb1]; rfl⟩
/-- how many bits -/
def cntB (x : Int64) : Nat → Nat
  | 0 => 0
  | k + 1 => cntB x k + (if bt x k = true then 1 else 0)
def cnt (x : Int64) : Nat := cntB x 64
theorem cntB_le (x : Int64) : ∀ k, cntB x k ≤ k := by
  intro k
  induction k with
  | zero => exact Nat.le_refl 0
  | succ k ih => unfold cntB; split <;> omega
theorem cnt_le (x : Int64) : cnt x ≤ 64 := cntB_le x 64
theorem cntB_eq {x y : Int64} : ∀ k, (∀ i, i < k → bt x i = bt y i) → cntB x k = cntB y k := by
  intro k
  induction k with
  | zero => intro _; rfl
  | succ k ih => intro h; unfold cntB; rw [ih (fun i hi => h i (by omega)), h k (by omega)]
theorem cntB_z {x : Int64} : ∀ k, (∀ i, i < k → bt x i = false) → cntB x k = 0 := by
  intro k
  induction k with
  | zero => intro _; rfl
  | succ k ih => intro h; unfold cntB; rw [ih (fun i hi => h i (by omega)), h k (by omega)]; rfl
theorem cnt_0 : cnt (Int64.ofNat 0) = 0 := cntB_z 64 (fun i _ => bt_0 i)
theorem cntB_mono {x y : Int64} (h : ∀ i, i < 64 → bt x i = true → bt y i = true) : ∀ k, k ≤ 64 → cntB x k ≤ cntB y k := by
  intro k
  induction k with
  | zero => intro _; exact Nat.le_refl 0
  | succ k ih =>
    intro hk
    unfold cntB
    have := ih (by omega)
    by_cases a : bt x k = true
    · rw [if_pos a, if_pos (h k (by omega) a)]; omega
    · rw [if_neg a]; omega
theorem cntB_lt {x y : Int64} (h : ∀ i, i < 64 → bt x i = true → bt y i = true) {j : Nat} (hx : ¬ bt x j = true) (hy : bt y j = true) : ∀ k, k ≤ 64 → j < k → cntB x k < cntB y k := by
  intro k
  induction k with
  | zero => intro _ z; omega
  | succ k ih =>
    intro hk hj
    have hm := cntB_mono h k (by omega)
    unfold cntB
    by_cases e : j = k
    · subst e; rw [if_neg hx, if_pos hy]; omega
    · have := ih (by omega) (by omega)
      by_cases a : bt x k = true
      · rw [if_pos a, if_pos (h k (by omega) a)]; omega
      · rw [if_neg a]; omega
theorem cnt_lt {x y : Int64} (h : ∀ i, i < 64 → bt x i = true → bt y i = true) (hn : x ≠ y) : cnt x < cnt y := by
  have hj : ∃ j, j < 64 ∧ ¬ bt x j = true ∧ bt y j = true := Classical.byContradiction (fun z => hn (bt_ext (fun i hi => by
    by_cases a : bt x i = true
    · rw [a, h i hi a]
    · by_cases b : bt y i = true
      · exact absurd ⟨i, hi, a, b⟩ z
      · rw [nTF a, nTF b])))
  obtain ⟨j, h1, h2, h3⟩ := hj
  exact cntB_lt h h2 h3 64 (by omega) h1
theorem cntB_one {x y : Int64} {j : Nat} (hj : bt y j = true) (h : ∀ i, bt x i = (bt y i && decide (i ≠ j))) : ∀ k, (k ≤ j → cntB x k = cntB y k) ∧ (j < k → cntB x k + 1 = cntB y k) := by
  intro k
  induction k with
  | zero => exact ⟨fun _ => rfl, fun z => by omega⟩
  | succ k ih =>
    unfold cntB
    rw [h k]
    refine ⟨fun z => ?_, fun z => ?_⟩
    · rw [ih.1 (by omega), decide_eq_true (show k ≠ j by omega), Bool.and_true]
    · by_cases e : k = j
      · subst e; rw [ih.1 (Nat.le_refl _), hj, decide_eq_false (fun z => z rfl)]; rfl
      · have := ih.2 (by omega)
        rw [decide_eq_true e, Bool.and_true]
        omega
/-- the lowest bit -/
theorem low_ex : ∀ (f k : Nat) (x : Int64), k + f = 64 → (∀ i, i < k → bt x i = false) → x ≠ Int64.ofNat 0 → ∃ j, j < 64 ∧ bt x j = true ∧ ∀ i, i < j → bt x i = false := by
  intro f
  induction f with
  | zero => intro k x hk h hx; exact absurd (bt_eq0.mpr (fun i hi => h i (by omega))) hx
  | succ f ih =>
    intro k x hk h hx
    by_cases a : bt x k = true
    · exact ⟨k, by omega, a, h⟩
    · exact ih (k + 1) x (by omega) (fun i hi => by
        by_cases e : i = k
        · subst e; exact nTF a
        · exact h i (by omega)) hx
theorem low_of {x : Int64} (hx : x ≠ Int64.ofNat 0) : ∃ j, j < 64 ∧ bt x j = true ∧ ∀ i, i < j → bt x i = false := low_ex 64 0 x rfl (fun i hi => by omega) hx
theorem toNat_dvd {x : BitVec 64} : ∀ j, j ≤ 64 → (∀ i, i < j → x.getLsbD i = false) → 2 ^ j ∣ x.toNat := by
  intro j _ h
  apply Nat.dvd_of_mod_eq_zero
  apply Nat.eq_of_testBit_eq
  intro i
  rw [Nat.testBit_mod_two_pow, Nat.zero_testBit]
  by_cases e : i < j
  · have := h i e
    unfold BitVec.getLsbD at this
    rw [this, Bool.and_false]
  · rw [decide_eq_false e, Bool.false_and]
/-- what is left without its lowest bit -/
theorem dec_bit {x : Int64} {j : Nat} (hj : j < 64) (h1 : bt x j = true) (h0 : ∀ i, i < j → bt x i = false) (i : Nat) : bt (x &&& (x - Int64.ofNat 1)) i = (bt x i && decide (i ≠ j)) := by
  rw [bt_and]
  have e : (x - Int64.ofNat 1).toBitVec = x.toBitVec - 1#64 := rfl
  have hd := toNat_dvd (x := x.toBitVec) j (by omega) h0
  obtain ⟨m, hm⟩ := hd
  have hlt : x.toBitVec.toNat < 2 ^ 64 := x.toBitVec.isLt
  have hmo : m % 2 = 1 := by
    have h2 : x.toBitVec.toNat.testBit j = true := h1
    rw [hm, Nat.testBit_two_pow_mul, decide_eq_true (Nat.le_refl j), Nat.sub_self, Bool.true_and, Nat.testBit_zero] at h2
    exact of_decide_eq_true h2
  have hp : 0 < 2 ^ j := Nat.two_pow_pos j
  have hpos : 1 ≤ x.toBitVec.toNat := by rw [hm]; exact Nat.mul_pos hp (by omega)
  have hs : (x.toBitVec - 1#64).toNat = x.toBitVec.toNat - 1 := by
    rw [BitVec.toNat_sub]
    show (2 ^ 64 - 1 + x.toBitVec.toNat) % 2 ^ 64 = _
    rw [show 2 ^ 64 - 1 + x.toBitVec.toNat = x.toBitVec.toNat - 1 + 2 ^ 64 by omega, Nat.add_mod_right, Nat.mod_eq_of_lt (by omega)]
  by_cases hi : i < j
  · rw [h0 i hi, Bool.false_and, Bool.false_and]
  · have h3 : bt (x - Int64.ofNat 1) i = (x.toBitVec.toNat - 1).testBit i := by
      unfold bt
      rw [e]
      unfold BitVec.getLsbD
      rw [hs]
    have h4 : x.toBitVec.toNat - 1 = 2 ^ j * (m - 1) + (2 ^ j - 1) := by
      rw [hm]
      obtain ⟨m', rfl⟩ : ∃ m', m = m' + 1 := ⟨m - 1, by omega⟩
      rw [Nat.mul_add, Nat.mul_one, Nat.add_sub_cancel]
      omega
    have h5 : bt x i = (2 ^ j * m).testBit i := by
      unfold bt BitVec.getLsbD
      rw [hm]
    rw [h3, h4, Nat.testBit_two_pow_mul_add _ (by omega), if_neg hi, h5, Nat.testBit_two_pow_mul, decide_eq_true (show j ≤ i by omega), Bool.true_and]
    by_cases e2 : i = j
    · subst e2
      rw [Nat.sub_self, Nat.testBit_zero, Nat.testBit_zero, decide_eq_false (show ¬ (m - 1) % 2 = 1 by omega), decide_eq_false (show ¬ (i ≠ i) from fun z => z rfl), Bool.and_false]
    · rw [decide_eq_true e2, Bool.and_true]
      obtain ⟨k, hk⟩ : ∃ k, i - j = k + 1 := ⟨i - j - 1, by omega⟩
      rw [hk, Nat.testBit_succ, Nat.testBit_succ, show (m - 1) / 2 = m / 2 by omega, Bool.and_self]
theorem cnt_dec {x : Int64} (hx : x ≠ Int64.ofNat 0) : cnt (x &&& (x - Int64.ofNat 1)) + 1 = cnt x := by
  obtain ⟨j, h1, h2, h3⟩ := low_of hx
  exact (cntB_one h2 (dec_bit h1 h2 h3) 64).2 h1
theorem cnt_z {x : Int64} (h : cnt x = 0) : x = Int64.ofNat 0 := Classical.byContradiction (fun z => by
  have := cnt_dec z
  omega)
theorem s_manyE_go {d : Nat} {h : sHp} {set : Int64} : ∀ (f : Nat) (x : Int64) (N : Nat), cnt x = f → N + f ≤ 64 → sGo none 176 d 5 [some (.ref 60), some (.long set), none, some (.int (Int32.ofNat N)), some (.long x), none] [] h (fun r h' => h' = h ∧ r = some (.int (Int32.ofNat (N + f)))) := by
  intro f
  induction f with
  | zero =>
    intro x N hx hN
    refine g_lload (i := 4) rfl rfl ?_
    refine g_lconst (n := 0) rfl ?_
    show sGo none 176 _ 8 [some (.ref 60), some (.long set), none, some (.int (Int32.ofNat N)), some (.long x), none] [.long (Int64.ofNat 0), .long x] _ _
    refine g_lcmp rfl ?_
    refine g_if_eq 27 rfl rfl (fun _ => ?_) (fun hc => absurd hc (by exact fun z => z (lc_eq.mpr (cnt_z hx))))
    refine g_iload_n (i := 3) rfl rfl ?_
    refine g_ireturn (ty := .int) rfl rfl rfl ?_
    exact ⟨rfl, rfl⟩
  | succ f ih =>
    intro x N hx hN
    have hne : x ≠ Int64.ofNat 0 := fun z => by rw [z, cnt_0] at hx; omega
    have hc := cnt_dec hne
    refine g_lload (i := 4) rfl rfl ?_
    refine g_lconst (n := 0) rfl ?_
    show sGo none 176 _ 8 [some (.ref 60), some (.long set), none, some (.int (Int32.ofNat N)), some (.long x), none] [.long (Int64.ofNat 0), .long x] _ _
    refine g_lcmp rfl ?_
    refine g_if_eq 27 rfl rfl (fun hc => absurd hc (by rw [lc_eq]; exact hne)) (fun _ => ?_)
    refine g_iinc (i := 3) (L1 := [some (.ref 60), some (.long set), none, some (.int ((Int32.ofNat N) + Int32.ofInt 1)), some (.long x), none]) rfl rfl rfl ?_
    rw [ofN_add (by omega)]
    refine g_lload (i := 4) rfl rfl ?_
    refine g_lload (i := 4) rfl rfl ?_
    refine g_lconst (n := 1) rfl ?_
    show sGo none 176 _ 20 [some (.ref 60), some (.long set), none, some (.int (Int32.ofNat (N + 1))), some (.long x), none] [.long (Int64.ofNat 1), .long x, .long x] _ _
    refine g_lsub rfl ?_
    refine g_land rfl ?_
    refine g_lstore (i := 4) (L1 := [some (.ref 60), some (.long set), none, some (.int (Int32.ofNat (N + 1))), some (.long (x &&& (x - (Int64.ofNat 1)))), none]) rfl (Nat.le_of_ble_eq_true rfl) rfl ?_
    refine g_goto 5 rfl rfl ?_
    have key := ih (x &&& (x - Int64.ofNat 1)) (N + 1) (by omega) (by omega)
    rw [show N + 1 + f = N + (f + 1) by omega] at key
    exact key
theorem s_manyE {d : Nat} {h : sHp} {set : Int64} (hd : 1 ≤ d) : sDo d 176 [.ref 60, .long set] h (fun r h' => h' = h ∧ r = some (.int (Int32.ofNat (cnt set)))) := by
  have key := s_manyE_go (d := d - 1) (h := h) (set := set) (cnt set) set 0 rfl (by have := cnt_le set; omega)
  rw [Nat.zero_add] at key
  refine sDo_of1 (nL := 6) (L := [some (.ref 60), some (.long set), none, none, none, none]) hd rfl rfl ?_
  refine g_iconst (n := 0) rfl ?_
  refine g_istore_n (i := 3) (L1 := [some (.ref 60), some (.long set), none, some (.int (Int32.ofInt 0)), none, none]) rfl (Nat.le_of_ble_eq_true rfl) rfl ?_
  refine g_lload_n (i := 1) rfl rfl ?_
  refine g_lstore (i := 4) (L1 := [some (.ref 60), some (.long set), none, some (.int (Int32.ofInt 0)), some (.long set), none]) rfl (Nat.le_of_ble_eq_true rfl) rfl ?_
  exact key
theorem s_isFirst {d : Nat} {h : sHp} {J : Nat → Int32} {W H : Nat} {x : Int32} {C q : Nat} (hd : 1 ≤ d) (hr : h[60]? = some (mO J)) (g : gdM J W H) (hx : x.toInt = C) (hc : C < 7000) (hq : q < W * H) : sDo d 186 [.ref 60, .int x, .int (Int32.ofNat q)] h (fun r h' => h' = h ∧ r = some (.int (zI (isF W C q = true)))) := by
  have gd := g
  obtain ⟨gw, gh, w2, w8, h2, h8⟩ := gd
  have hn := gdM_n g
  have hw0 : (J 0).toInt = ((W : Nat) : Int) := by rw [gw]; exact ofN_toInt (by omega)
  have hw1 : (J 1).toInt = ((H : Nat) : Int) := by rw [gh]; exact ofN_toInt (by omega)
  have hwn : (J 0 * J 1).toInt = ((W * H : Nat) : Int) := n_mul hw0 hw1 (by omega)
  have hq0 := ofN_toInt (n := q) (by omega)
  have a0 : (x / (Int16.ofInt 1000).toInt32).toInt = ((C / 1000 : Nat) : Int) := n_div hx (show (Int16.ofInt 1000).toInt32.toInt = ((1000 : Nat) : Int) from rfl) (by decide)
  have a1 := cD_100 hx
  have a2 := cD_10 hx
  have a3 := cD_1 hx
  have a4 := n_rem hq0 hw0 (by omega)
  have a5 := n_div hq0 hw0 (by omega)
  have a6 : ((Int8.ofInt 8).toInt32 * cD x (Int8.ofInt 100).toInt32).toInt = ((8 * (C / 100 % 10) : Nat) : Int) := n_mul (show (Int8.ofInt 8).toInt32.toInt = ((8 : Nat) : Int) from rfl) a1 (by omega)
  refine sDo_of1 (nL := 9) (L := [some (.ref 60), some (.int x), some (.int (Int32.ofNat q)), none, none, none, none, none, none]) (by omega) rfl rfl ?_
  refine g_iload_n (i := 1) rfl rfl ?_
  refine g_sipush (n := 1000) rfl ?_
  have k_1 : ((Int16.ofInt 1000).toInt32).toInt = 1000 := rfl
  refine g_idiv rfl (by decide) ?_
  refine g_istore_n (i := 3) (L1 := [some (.ref 60), some (.int x), some (.int (Int32.ofNat q)), some (.int (x / (Int16.ofInt 1000).toInt32)), none, none, none, none, none]) rfl (Nat.le_of_ble_eq_true rfl) rfl ?_
  refine g_iload_n (i := 1) rfl rfl ?_
  refine g_bipush (n := 100) rfl ?_
  have k_2 : ((Int8.ofInt 100).toInt32).toInt = 100 := rfl
  refine g_idiv rfl (by decide) ?_
  have t_3 : ((x / (Int8.ofInt 100).toInt32)).toInt = ((C / 100 : Nat) : Int) := n_div (X := C) (Y := 100) hx (show _ = ((100 : Nat) : Int) from k_2) (by omega)
  refine g_bipush (n := 10) rfl ?_
  have k_4 : ((Int8.ofInt 10).toInt32).toInt = 10 := rfl
  refine g_irem rfl (by decide) ?_
  have t_5 : (((x / (Int8.ofInt 100).toInt32) - (x / (Int8.ofInt 100).toInt32) / (Int8.ofInt 10).toInt32 * (Int8.ofInt 10).toInt32)).toInt = (((C / 100) % 10 : Nat) : Int) := n_rem (X := C / 100) (Y := 10) t_3 (show _ = ((10 : Nat) : Int) from k_4) (by omega)
  refine g_istore (i := 4) (L1 := [some (.ref 60), some (.int x), some (.int (Int32.ofNat q)), some (.int (x / (Int16.ofInt 1000).toInt32)), some (.int ((x / (Int8.ofInt 100).toInt32) - (x / (Int8.ofInt 100).toInt32) / (Int8.ofInt 10).toInt32 * (Int8.ofInt 10).toInt32)), none, none, none, none]) rfl (Nat.le_of_ble_eq_true rfl) rfl ?_
  refine g_iload_n (i := 1) rfl rfl ?_
  refine g_bipush (n := 10) rfl ?_
  refine g_idiv rfl (by decide) ?_
  have t_6 : ((x / (Int8.ofInt 10).toInt32)).toInt = ((C / 10 : Nat) : Int) := n_div (X := C) (Y := 10) hx (show _ = ((10 : Nat) : Int) from k_4) (by omega)
  refine g_bipush (n := 10) rfl ?_
  refine g_irem rfl (by decide) ?_
  have t_7 : (((x / (Int8.ofInt 10).toInt32) - (x / (Int8.ofInt 10).toInt32) / (Int8.ofInt 10).toInt32 * (Int8.ofInt 10).toInt32)).toInt = (((C / 10) % 10 : Nat) : Int) := n_rem (X := C / 10) (Y := 10) t_6 (show _ = ((10 : Nat) : Int) from k_4) (by omega)
  refine g_istore (i := 5) (L1 := [some (.ref 60), some (.int x), some (.int (Int32.ofNat q)), some (.int (x / (Int16.ofInt 1000).toInt32)), some (.int ((x / (Int8.ofInt 100).toInt32) - (x / (Int8.ofInt 100).toInt32) / (Int8.ofInt 10).toInt32 * (Int8.ofInt 10).toInt32)), some (.int ((x / (Int8.ofInt 10).toInt32) - (x / (Int8.ofInt 10).toInt32) / (Int8.ofInt 10).toInt32 * (Int8.ofInt 10).toInt32)), none, none, none]) rfl (Nat.le_of_ble_eq_true rfl) rfl ?_
  refine g_iload_n (i := 1) rfl rfl ?_
  refine g_bipush (n := 10) rfl ?_
  refine g_irem rfl (by decide) ?_
  have t_8 : ((x - x / (Int8.ofInt 10).toInt32 * (Int8.ofInt 10).toInt32)).toInt = ((C % 10 : Nat) : Int) := n_rem (X := C) (Y := 10) hx (show _ = ((10 : Nat) : Int) from k_4) (by omega)
  refine g_istore (i := 6) (L1 := [some (.ref 60), some (.int x), some (.int (Int32.ofNat q)), some (.int (x / (Int16.ofInt 1000).toInt32)), some (.int ((x / (Int8.ofInt 100).toInt32) - (x / (Int8.ofInt 100).toInt32) / (Int8.ofInt 10).toInt32 * (Int8.ofInt 10).toInt32)), some (.int ((x / (Int8.ofInt 10).toInt32) - (x / (Int8.ofInt 10).toInt32) / (Int8.ofInt 10).toInt32 * (Int8.ofInt 10).toInt32)), some (.int (x - x / (Int8.ofInt 10).toInt32 * (Int8.ofInt 10).toInt32)), none, none]) rfl (Nat.le_of_ble_eq_true rfl) rfl ?_
  refine g_iload_n (i := 2) rfl rfl ?_
  refine g_aload_n (i := 0) rfl rfl ?_
  refine g_getfield (v := .int (J 0)) rfl hr (by decide) rfl ?_
  refine g_irem rfl (by intro z; rw [z] at hw0; have e : (0 : Int32).toInt = 0 := rfl; omega) ?_
  refine g_istore (i := 7) (L1 := [some (.ref 60), some (.int x), some (.int (Int32.ofNat q)), some (.int (x / (Int16.ofInt 1000).toInt32)), some (.int ((x / (Int8.ofInt 100).toInt32) - (x / (Int8.ofInt 100).toInt32) / (Int8.ofInt 10).toInt32 * (Int8.ofInt 10).toInt32)), some (.int ((x / (Int8.ofInt 10).toInt32) - (x / (Int8.ofInt 10).toInt32) / (Int8.ofInt 10).toInt32 * (Int8.ofInt 10).toInt32)), some (.int (x - x / (Int8.ofInt 10).toInt32 * (Int8.ofInt 10).toInt32)), some (.int ((Int32.ofNat q) - (Int32.ofNat q) / (J 0) * (J 0))), none]) rfl (Nat.le_of_ble_eq_true rfl) rfl ?_
  refine g_iload_n (i := 2) rfl rfl ?_
  refine g_aload_n (i := 0) rfl rfl ?_
  refine g_getfield (v := .int (J 0)) rfl hr (by decide) rfl ?_
  refine g_idiv rfl (by intro z; rw [z] at hw0; have e : (0 : Int32).toInt = 0 := rfl; omega) ?_
  refine g_istore (i := 8) (L1 := [some (.ref 60), some (.int x), some (.int (Int32.ofNat q)), some (.int (x / (Int16.ofInt 1000).toInt32)), some (.int ((x / (Int8.ofInt 100).toInt32) - (x / (Int8.ofInt 100).toInt32) / (Int8.ofInt 10).toInt32 * (Int8.ofInt 10).toInt32)), some (.int ((x / (Int8.ofInt 10).toInt32) - (x / (Int8.ofInt 10).toInt32) / (Int8.ofInt 10).toInt32 * (Int8.ofInt 10).toInt32)), some (.int (x - x / (Int8.ofInt 10).toInt32 * (Int8.ofInt 10).toInt32)), some (.int ((Int32.ofNat q) - (Int32.ofNat q) / (J 0) * (J 0))), some (.int ((Int32.ofNat q) / (J 0)))]) rfl (Nat.le_of_ble_eq_true rfl) rfl ?_
  refine g_iload_n (i := 3) rfl rfl ?_
  show sGo none 186 _ 47 [some (.ref 60), some (.int x), some (.int (Int32.ofNat q)), some (.int (x / (Int16.ofInt 1000).toInt32)), some (.int (cD x (Int8.ofInt 100).toInt32)), some (.int (cD x (Int8.ofInt 10).toInt32)), some (.int (cD1 x)), some (.int ((Int32.ofNat q) - (Int32.ofNat q) / (J 0) * (J 0))), some (.int ((Int32.ofNat q) / (J 0)))] [.int (x / (Int16.ofInt 1000).toInt32)] _ _
  rcases (show C / 1000 = 0 ∨ C / 1000 = 1 ∨ C / 1000 = 2 ∨ C / 1000 = 3 ∨ C / 1000 = 4 ∨ C / 1000 = 5 ∨ C / 1000 = 6 by omega) with k | k | k | k | k | k | k
  · skip
    refine g_tsIn 0 88 rfl (by omega) (by rw [a0, k]; rfl) rfl rfl ?_
    refine g_iload_n (i := 2) rfl rfl ?_
    refine g_bipush (n := 8) rfl ?_
    refine g_iload (i := 4) rfl rfl ?_
    refine g_imul rfl ?_
    refine g_iload (i := 5) rfl rfl ?_
    refine g_iadd rfl ?_
    have t_9 : (((Int8.ofInt 8).toInt32 * (cD x (Int8.ofInt 100).toInt32)) + (cD x (Int8.ofInt 10).toInt32)).toInt = ((8 * (C / 100 % 10) + C / 10 % 10 : Nat) : Int) := by rw [i_add (by rw [a6, a2]; omega) (by rw [a6, a2]; omega), a6, a2]; omega
    refine g_icmp_ge 104 rfl rfl (fun c_10 => ?_) (fun c_10 => ?_)
    · skip
      rw [i_le, hq0, t_9] at c_10
      refine g_iconst (n := 0) rfl ?_
      refine g_ireturn (ty := .boolean) rfl rfl (by decide) ?_
      refine ⟨rfl, congrArg (fun z => some (Value.int z)) (Eq.symm (zI_neg ?_))⟩
      unfold isF; rw [k]; simp only [decide_eq_true_eq, Bool.and_eq_true]; omega
    · skip
      rw [i_le, hq0, t_9] at c_10
      refine g_iconst (n := 1) rfl ?_
      refine g_goto 105 rfl rfl ?_
      refine g_ireturn (ty := .boolean) rfl rfl (by decide) ?_
      refine ⟨rfl, congrArg (fun z => some (Value.int z)) (Eq.symm (zI_pos ?_))⟩
      unfold isF; rw [k]; simp only [decide_eq_true_eq, Bool.and_eq_true]; omega
  · skip
    refine g_tsIn 1 189 rfl (by omega) (by rw [a0, k]; rfl) rfl rfl ?_
    refine g_iload (i := 7) rfl rfl ?_
    refine g_iload (i := 4) rfl rfl ?_
    refine g_icmp_ge 200 rfl rfl (fun c_11 => ?_) (fun c_11 => ?_)
    · skip
      rw [i_le, a4, a1] at c_11
      refine g_iconst (n := 0) rfl ?_
      refine g_ireturn (ty := .boolean) rfl rfl (by decide) ?_
      refine ⟨rfl, congrArg (fun z => some (Value.int z)) (Eq.symm (zI_neg ?_))⟩
      unfold isF; rw [k]; simp only [decide_eq_true_eq, Bool.and_eq_true]; omega
    · skip
      rw [i_le, a4, a1] at c_11
      refine g_iconst (n := 1) rfl ?_
      refine g_goto 201 rfl rfl ?_
      refine g_ireturn (ty := .boolean) rfl rfl (by decide) ?_
      refine ⟨rfl, congrArg (fun z => some (Value.int z)) (Eq.symm (zI_pos ?_))⟩
      unfold isF; rw [k]; simp only [decide_eq_true_eq, Bool.and_eq_true]; omega
  · skip
    refine g_tsIn 2 139 rfl (by omega) (by rw [a0, k]; rfl) rfl rfl ?_
    refine g_iload (i := 7) rfl rfl ?_
    refine g_iload (i := 8) rfl rfl ?_
    refine g_iload (i := 5) rfl rfl ?_
    refine g_icmp_ge 153 rfl rfl (fun c_12 => ?_) (fun c_12 => ?_)
    · skip
      rw [i_le, a5, a2] at c_12
      refine g_iload (i := 6) rfl rfl ?_
      refine g_icmp_ge 162 rfl rfl (fun c_13 => ?_) (fun c_13 => ?_)
      · skip
        rw [i_le, a4, a3] at c_13
        refine g_iconst (n := 0) rfl ?_
        refine g_ireturn (ty := .boolean) rfl rfl (by decide) ?_
        refine ⟨rfl, congrArg (fun z => some (Value.int z)) (Eq.symm (zI_neg ?_))⟩
        unfold isF; rw [k]; simp only [decide_eq_true_eq, Bool.and_eq_true, Bool.not_eq_true', decide_eq_false_iff_not]; (try split) <;> omega
      · skip
        rw [i_le, a4, a3] at c_13
        refine g_iconst (n := 1) rfl ?_
        refine g_goto 163 rfl rfl ?_
        refine g_ireturn (ty := .boolean) rfl rfl (by decide) ?_
        refine ⟨rfl, congrArg (fun z => some (Value.int z)) (Eq.symm (zI_pos ?_))⟩
        unfold isF; rw [k]; simp only [decide_eq_true_eq, Bool.and_eq_true, Bool.not_eq_true', decide_eq_false_iff_not]; (try split) <;> omega
    · skip
      rw [i_le, a5, a2] at c_12
      refine g_iload (i := 4) rfl rfl ?_
      refine g_goto 155 rfl rfl ?_
      refine g_icmp_ge 162 rfl rfl (fun c_14 => ?_) (fun c_14 => ?_)
      · skip
        rw [i_le, a4, a1] at c_14
        refine g_iconst (n := 0) rfl ?_
        refine g_ireturn (ty := .boolean) rfl rfl (by decide) ?_
        refine ⟨rfl, congrArg (fun z => some (Value.int z)) (Eq.symm (zI_neg ?_))⟩
        unfold isF; rw [k]; simp only [decide_eq_true_eq, Bool.and_eq_true, Bool.not_eq_true', decide_eq_false_iff_not]; (try split) <;> omega
      · skip
        rw [i_le, a4, a1] at c_14
        refine g_iconst (n := 1) rfl ?_
        refine g_goto 163 rfl rfl ?_
        refine g_ireturn (ty := .boolean) rfl rfl (by decide) ?_
        refine ⟨rfl, congrArg (fun z => some (Value.int z)) (Eq.symm (zI_pos ?_))⟩
        unfold isF; rw [k]; simp only [decide_eq_true_eq, Bool.and_eq_true, Bool.not_eq_true', decide_eq_false_iff_not]; (try split) <;> omega
  · skip
    refine g_tsIn 3 189 rfl (by omega) (by rw [a0, k]; rfl) rfl rfl ?_
    refine g_iload (i := 7) rfl rfl ?_
    refine g_iload (i := 4) rfl rfl ?_
    refine g_icmp_ge 200 rfl rfl (fun c_15 => ?_) (fun c_15 => ?_)
    · skip
      rw [i_le, a4, a1] at c_15
      refine g_iconst (n := 0) rfl ?_
      refine g_ireturn (ty := .boolean) rfl rfl (by decide) ?_
      refine ⟨rfl, congrArg (fun z => some (Value.int z)) (Eq.symm (zI_neg ?_))⟩
      unfold isF; rw [k]; simp only [decide_eq_true_eq, Bool.and_eq_true]; omega
    · skip
      rw [i_le, a4, a1] at c_15
      refine g_iconst (n := 1) rfl ?_
      refine g_goto 201 rfl rfl ?_
      refine g_ireturn (ty := .boolean) rfl rfl (by decide) ?_
      refine ⟨rfl, congrArg (fun z => some (Value.int z)) (Eq.symm (zI_pos ?_))⟩
      unfold isF; rw [k]; simp only [decide_eq_true_eq, Bool.and_eq_true]; omega
  · skip
    refine g_tsIn 4 106 rfl (by omega) (by rw [a0, k]; rfl) rfl rfl ?_
    refine g_iload (i := 8) rfl rfl ?_
    refine g_iload (i := 4) rfl rfl ?_
    refine g_icmp_ge 117 rfl rfl (fun c_16 => ?_) (fun c_16 => ?_)
    · skip
      rw [i_le, a5, a1] at c_16
      refine g_iconst (n := 0) rfl ?_
      refine g_ireturn (ty := .boolean) rfl rfl (by decide) ?_
      refine ⟨rfl, congrArg (fun z => some (Value.int z)) (Eq.symm (zI_neg ?_))⟩
      unfold isF; rw [k]; simp only [decide_eq_true_eq, Bool.and_eq_true]; omega
    · skip
      rw [i_le, a5, a1] at c_16
      refine g_iconst (n := 1) rfl ?_
      refine g_goto 118 rfl rfl ?_
      refine g_ireturn (ty := .boolean) rfl rfl (by decide) ?_
      refine ⟨rfl, congrArg (fun z => some (Value.int z)) (Eq.symm (zI_pos ?_))⟩
      unfold isF; rw [k]; simp only [decide_eq_true_eq, Bool.and_eq_true]; omega
  · skip
    refine g_tsIn 5 119 rfl (by omega) (by rw [a0, k]; rfl) rfl rfl ?_
    refine g_iload (i := 7) rfl rfl ?_
    refine g_iload (i := 4) rfl rfl ?_
    refine g_icmp_ge 137 rfl rfl (fun c_17 => ?_) (fun c_17 => ?_)
    · skip
      rw [i_le, a4, a1] at c_17
      refine g_iconst (n := 0) rfl ?_
      refine g_ireturn (ty := .boolean) rfl rfl (by decide) ?_
      refine ⟨rfl, congrArg (fun z => some (Value.int z)) (Eq.symm (zI_neg ?_))⟩
      unfold isF; rw [k]; simp only [decide_eq_true_eq, Bool.and_eq_true]; omega
    · skip
      rw [i_le, a4, a1] at c_17
      refine g_iload (i := 8) rfl rfl ?_
      refine g_iload (i := 5) rfl rfl ?_
      refine g_icmp_ge 137 rfl rfl (fun c_18 => ?_) (fun c_18 => ?_)
      · skip
        rw [i_le, a5, a2] at c_18
        refine g_iconst (n := 0) rfl ?_
        refine g_ireturn (ty := .boolean) rfl rfl (by decide) ?_
        refine ⟨rfl, congrArg (fun z => some (Value.int z)) (Eq.symm (zI_neg ?_))⟩
        unfold isF; rw [k]; simp only [decide_eq_true_eq, Bool.and_eq_true]; omega
      · skip
        rw [i_le, a5, a2] at c_18
        refine g_iconst (n := 1) rfl ?_
        refine g_goto 138 rfl rfl ?_
        refine g_ireturn (ty := .boolean) rfl rfl (by decide) ?_
        refine ⟨rfl, congrArg (fun z => some (Value.int z)) (Eq.symm (zI_pos ?_))⟩
        unfold isF; rw [k]; simp only [decide_eq_true_eq, Bool.and_eq_true]; omega
  · skip
    refine g_tsIn 6 164 rfl (by omega) (by rw [a0, k]; rfl) rfl rfl ?_
    refine g_iload (i := 7) rfl rfl ?_
    refine g_iload (i := 8) rfl rfl ?_
    refine g_iload (i := 5) rfl rfl ?_
    refine g_icmp_ge 178 rfl rfl (fun c_19 => ?_) (fun c_19 => ?_)
    · skip
      rw [i_le, a5, a2] at c_19
      refine g_iload (i := 6) rfl rfl ?_
      refine g_icmp_lt 187 rfl rfl (fun c_20 => ?_) (fun c_20 => ?_)
      · skip
        rw [i_lt, a4, a3] at c_20
        refine g_iconst (n := 0) rfl ?_
        refine g_ireturn (ty := .boolean) rfl rfl (by decide) ?_
        refine ⟨rfl, congrArg (fun z => some (Value.int z)) (Eq.symm (zI_neg ?_))⟩
        unfold isF; rw [k]; simp only [decide_eq_true_eq, Bool.and_eq_true, Bool.not_eq_true', decide_eq_false_iff_not]; (try split) <;> omega
      · skip
        rw [i_lt, a4, a3] at c_20
        refine g_iconst (n := 1) rfl ?_
        refine g_goto 188 rfl rfl ?_
        refine g_ireturn (ty := .boolean) rfl rfl (by decide) ?_
        refine ⟨rfl, congrArg (fun z => some (Value.int z)) (Eq.symm (zI_pos ?_))⟩
        unfold isF; rw [k]; simp only [decide_eq_true_eq, Bool.and_eq_true, Bool.not_eq_true', decide_eq_false_iff_not]; (try split) <;> omega
    · skip
      rw [i_le, a5, a2] at c_19
      refine g_iload (i := 4) rfl rfl ?_
      refine g_goto 180 rfl rfl ?_
      refine g_icmp_lt 187 rfl rfl (fun c_21 => ?_) (fun c_21 => ?_)
      · skip
        rw [i_lt, a4, a1] at c_21
        refine g_iconst (n := 0) rfl ?_
        refine g_ireturn (ty := .boolean) rfl rfl (by decide) ?_
        refine ⟨rfl, congrArg (fun z => some (Value.int z)) (Eq.symm (zI_neg ?_))⟩
        unfold isF; rw [k]; simp only [decide_eq_true_eq, Bool.and_eq_true, Bool.not_eq_true', decide_eq_false_iff_not]; (try split) <;> omega
      · skip
        rw [i_lt, a4, a1] at c_21
        refine g_iconst (n := 1) rfl ?_
        refine g_goto 188 rfl rfl ?_
        refine g_ireturn (ty := .boolean) rfl rfl (by decide) ?_
        refine ⟨rfl, congrArg (fun z => some (Value.int z)) (Eq.symm (zI_pos ?_))⟩
        unfold isF; rw [k]; simp only [decide_eq_true_eq, Bool.and_eq_true, Bool.not_eq_true', decide_eq_false_iff_not]; (try split) <;> omega
theorem s_sideOf12_go {d : Nat} {h : sHp} {J : Nat → Int32} {W H : Nat} {x side : Int32} {C : Nat} {o6 : Option Value} (hd : 1 ≤ d) (hr : h[60]? = some (mO J)) (g : gdM J W H) (hx : x.toInt = C) (hc : C < 7000) : ∀ (f k : Nat) (o6 : Option Value), k + f = W * H → sGo none 187 d 5 [some (.ref 60), some (.int x), some (.int side), some (.long (stO (fun q => decide ((sdC W C q : Int) = side.toInt)) k)), none, some (.int (Int32.ofNat k)), o6] [] h (fun r h' => h' = h ∧ r = some (.long (sdS W (W * H) C side.toInt))) := by
  have gd := g
  obtain ⟨gw, gh, w2, w8, h2, h8⟩ := gd
  have hn := gdM_n g
  have hw0 : (J 0).toInt = ((W : Nat) : Int) := by rw [gw]; exact ofN_toInt (by omega)
  have hw1 : (J 1).toInt = ((H : Nat) : Int) := by rw [gh]; exact ofN_toInt (by omega)
  have hwn : (J 0 * J 1).toInt = ((W * H : Nat) : Int) := n_mul hw0 hw1 (by omega)
  intro f
  induction f with
  | zero =>
    intro k o6 hk
    have ek := ofN_toInt (n := k) (by omega)
    refine g_iload (i := 5) rfl rfl ?_
    refine g_aload_n (i := 0) rfl rfl ?_
    refine g_getfield (v := .int (J 0)) rfl hr (by decide) rfl ?_
    refine g_aload_n (i := 0) rfl rfl ?_
    refine g_getfield (v := .int (J 1)) rfl hr (by decide) rfl ?_
    refine g_imul rfl ?_
    refine g_icmp_ge 85 rfl rfl (fun _ => ?_) (fun hc => absurd hc (by rw [i_le, hwn, ek]; omega))
    refine g_lload_n (i := 3) rfl rfl ?_
    refine g_lreturn rfl rfl ?_
    exact ⟨rfl, by rw [show k = W * H by omega]; rfl⟩
  | succ f ih =>
    intro k o6 hk
    have ek := ofN_toInt (n := k) (by omega)
    have a0 : (x / (Int16.ofInt 1000).toInt32).toInt = ((C / 1000 : Nat) : Int) := n_div hx (show (Int16.ofInt 1000).toInt32.toInt = ((1000 : Nat) : Int) from rfl) (by decide)
    have a1 := cD_100 hx
    have a4 := n_rem ek hw0 (by omega)
    have go79 : ∀ (v : Nat), v = sdC W C k → sGo none 187 d 64 [some (.ref 60), some (.int x), some (.int side), some (.long (stO (fun q => decide ((sdC W C q : Int) = side.toInt)) k)), none, some (.int (Int32.ofNat k)), o6] [.int (Int32.ofNat v)] h (fun r h' => h' = h ∧ r = some (.long (sdS W (W * H) C side.toInt))) := by
      intro v hv
      have hv2 := sdC_le W C k
      have ev := ofN_toInt (n := v) (by omega)
      refine g_istore (i := 6) (L1 := [some (.ref 60), some (.int x), some (.int side), some (.long (stO (fun q => decide ((sdC W C q : Int) = side.toInt)) k)), none, some (.int (Int32.ofNat k)), some (.int (Int32.ofNat v))]) rfl (Nat.le_of_ble_eq_true rfl) rfl ?_
      refine g_iload (i := 6) rfl rfl ?_
      refine g_iload_n (i := 2) rfl rfl ?_
      refine g_icmp_ne 79 rfl rfl (fun c_1 => ?_) (fun c_1 => ?_)
      · skip
        rw [i_eq, ev] at c_1
        refine g_iinc (i := 5) (L1 := [some (.ref 60), some (.int x), some (.int side), some (.long (stO (fun q => decide ((sdC W C q : Int) = side.toInt)) k)), none, some (.int ((Int32.ofNat k) + Int32.ofInt 1)), some (.int (Int32.ofNat v))]) rfl rfl rfl ?_
        rw [ofN_add (by omega)]
        refine g_goto 5 rfl rfl ?_
        exact (show stO (fun q => decide ((sdC W C q : Int) = side.toInt)) (k + 1) = _ from if_neg (fun z => by have := of_decide_eq_true z; omega)) ▸ ih (k + 1) _ (by omega)
      · skip
        rw [i_eq, ev] at c_1
        refine g_lload_n (i := 3) rfl rfl ?_
        refine g_lconst (n := 1) rfl ?_
        show sGo none 187 _ 74 [some (.ref 60), some (.int x), some (.int side), some (.long (stO (fun q => decide ((sdC W C q : Int) = side.toInt)) k)), none, some (.int (Int32.ofNat k)), some (.int (Int32.ofNat v))] [.long (Int64.ofNat 1), .long (stO (fun q => decide ((sdC W C q : Int) = side.toInt)) k)] _ _
        refine g_iload (i := 5) rfl rfl ?_
        refine g_lshl rfl ?_
        refine g_lor rfl ?_
        refine g_lstore_n (i := 3) (L1 := [some (.ref 60), some (.int x), some (.int side), some (.long ((stO (fun q => decide ((sdC W C q : Int) = side.toInt)) k) ||| ((Int64.ofNat 1) <<< ((Int32.ofNat k).toInt64 &&& 63)))), none, some (.int (Int32.ofNat k)), some (.int (Int32.ofNat v))]) rfl (Nat.le_of_ble_eq_true rfl) rfl ?_
        refine g_iinc (i := 5) (L1 := [some (.ref 60), some (.int x), some (.int side), some (.long ((stO (fun q => decide ((sdC W C q : Int) = side.toInt)) k) ||| ((Int64.ofNat 1) <<< ((Int32.ofNat k).toInt64 &&& 63)))), none, some (.int ((Int32.ofNat k) + Int32.ofInt 1)), some (.int (Int32.ofNat v))]) rfl rfl rfl ?_
        rw [ofN_add (by omega)]
        refine g_goto 5 rfl rfl ?_
        exact (show stO (fun q => decide ((sdC W C q : Int) = side.toInt)) (k + 1) = _ from if_pos (decide_eq_true (by omega))) ▸ ih (k + 1) _ (by omega)
    refine g_iload (i := 5) rfl rfl ?_
    refine g_aload_n (i := 0) rfl rfl ?_
    refine g_getfield (v := .int (J 0)) rfl hr (by decide) rfl ?_
    refine g_aload_n (i := 0) rfl rfl ?_
    refine g_getfield (v := .int (J 1)) rfl hr (by decide) rfl ?_
    refine g_imul rfl ?_
    refine g_icmp_ge 85 rfl rfl (fun hc => absurd hc (by rw [i_le, hwn, ek]; omega)) (fun _ => ?_)
    refine g_iload_n (i := 1) rfl rfl ?_
    refine g_sipush (n := 1000) rfl ?_
    have k_1 : ((Int16.ofInt 1000).toInt32).toInt = 1000 := rfl
    refine g_idiv rfl (by decide) ?_
    refine g_iconst (n := 3) rfl ?_
    have k_3 : (Int32.ofInt 3).toInt = 3 := rfl
    refine g_icmp_ne 49 rfl rfl (fun c_2 => ?_) (fun c_2 => ?_)
    · skip
      rw [i_eq, a0, k_3] at c_2
      refine g_aload_n (i := 0) rfl rfl ?_
      refine g_iload_n (i := 1) rfl rfl ?_
      refine g_iload (i := 5) rfl rfl ?_
      refine g_virt2 (Qc := fun r h' => h' = h ∧ r = some (.int (zI (isF W C k = true)))) rfl (by decide) rfl hr rfl (Nat.le_of_ble_eq_true rfl) (s_isFirst (C := C) (q := k) (by omega) hr g hx hc (by omega)) (fun r h hq9 => ?_)
      obtain ⟨rfl, rfl⟩ := hq9
      refine g_if_eq 63 rfl rfl (fun c_4 => ?_) (fun c_4 => ?_)
      · skip
        rw [zI_eq0] at c_4
        refine g_iconst (n := 1) rfl ?_
        refine go79 1 ?_
        unfold sdC
        rw [if_neg (by omega)]
        exact (if_neg c_4).symm
      · skip
        rw [zI_eq0] at c_4
        replace c_4 := Classical.not_not.mp c_4
        refine g_iconst (n := 0) rfl ?_
        refine g_goto 64 rfl rfl ?_
        refine go79 0 ?_
        unfold sdC
        rw [if_neg (by omega)]
        exact (if_pos c_4).symm
    · skip
      rw [i_eq, a0, k_3] at c_2
      refine g_iload (i := 5) rfl rfl ?_
      refine g_aload_n (i := 0) rfl rfl ?_
      refine g_getfield (v := .int (J 0)) rfl hr (by decide) rfl ?_
      refine g_irem rfl (by intro z; rw [z] at hw0; have e : (0 : Int32).toInt = 0 := rfl; omega) ?_
      refine g_iload_n (i := 1) rfl rfl ?_
      refine g_bipush (n := 100) rfl ?_
      have k_5 : ((Int8.ofInt 100).toInt32).toInt = 100 := rfl
      refine g_idiv rfl (by decide) ?_
      have t_6 : ((x / (Int8.ofInt 100).toInt32)).toInt = ((C / 100 : Nat) : Int) := n_div (X := C) (Y := 100) hx (show _ = ((100 : Nat) : Int) from k_5) (by omega)
      refine g_bipush (n := 10) rfl ?_
      have k_7 : ((Int8.ofInt 10).toInt32).toInt = 10 := rfl
      refine g_irem rfl (by decide) ?_
      have t_8 : (((x / (Int8.ofInt 100).toInt32) - (x / (Int8.ofInt 100).toInt32) / (Int8.ofInt 10).toInt32 * (Int8.ofInt 10).toInt32)).toInt = (((C / 100) % 10 : Nat) : Int) := n_rem (X := C / 100) (Y := 10) t_6 (show _ = ((10 : Nat) : Int) from k_7) (by omega)
      refine g_icmp_ne 49 rfl rfl (fun c_9 => ?_) (fun c_9 => ?_)
      · skip
        rw [i_eq, a4, t_8] at c_9
        refine g_aload_n (i := 0) rfl rfl ?_
        refine g_iload_n (i := 1) rfl rfl ?_
        refine g_iload (i := 5) rfl rfl ?_
        refine g_virt2 (Qc := fun r h' => h' = h ∧ r = some (.int (zI (isF W C k = true)))) rfl (by decide) rfl hr rfl (Nat.le_of_ble_eq_true rfl) (s_isFirst (C := C) (q := k) (by omega) hr g hx hc (by omega)) (fun r h hq9 => ?_)
        obtain ⟨rfl, rfl⟩ := hq9
        refine g_if_eq 63 rfl rfl (fun c_10 => ?_) (fun c_10 => ?_)
        · skip
          rw [zI_eq0] at c_10
          refine g_iconst (n := 1) rfl ?_
          refine go79 1 ?_
          unfold sdC
          rw [if_neg (by omega)]
          exact (if_neg c_10).symm
        · skip
          rw [zI_eq0] at c_10
          replace c_10 := Classical.not_not.mp c_10
          refine g_iconst (n := 0) rfl ?_
          refine g_goto 64 rfl rfl ?_
          refine go79 0 ?_
          unfold sdC
          rw [if_neg (by omega)]
          exact (if_pos c_10).symm
      · skip
        rw [i_eq, a4, t_8] at c_9
        refine g_iconst (n := 2) rfl ?_
        refine g_goto 64 rfl rfl ?_
        refine go79 2 ?_
        unfold sdC
        exact (if_pos ⟨by omega, by omega⟩).symm
theorem s_sideOf12 {d : Nat} {h : sHp} {J : Nat → Int32} {W H : Nat} {x side : Int32} {C : Nat} (hd : 2 ≤ d) (hr : h[60]? = some (mO J)) (g : gdM J W H) (hx : x.toInt = C) (hc : C < 7000) : sDo d 187 [.ref 60, .int x, .int side] h (fun r h' => h' = h ∧ r = some (.long (sdS W (W * H) C side.toInt))) := by
  have key := s_sideOf12_go (d := d - 1) (side := side) (o6 := none) (by omega) hr g hx hc (W * H) 0 none (by omega)
  refine sDo_of1 (nL := 7) (L := [some (.ref 60), some (.int x), some (.int side), none, none, none, none]) (by omega) rfl rfl ?_
  refine g_lconst (n := 0) rfl ?_
  show sGo none 187 _ 1 [some (.ref 60), some (.int x), some (.int side), none, none, none, none] [.long (Int64.ofNat 0)] _ _
  refine g_lstore_n (i := 3) (L1 := [some (.ref 60), some (.int x), some (.int side), some (.long (Int64.ofNat 0)), none, none, none]) rfl (Nat.le_of_ble_eq_true rfl) rfl ?_
  refine g_iconst (n := 0) rfl ?_
  refine g_istore (i := 5) (L1 := [some (.ref 60), some (.int x), some (.int side), some (.long (Int64.ofNat 0)), none, some (.int (Int32.ofInt 0)), none]) rfl (Nat.le_of_ble_eq_true rfl) rfl ?_
  exact key
end
