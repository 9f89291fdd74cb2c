section
/-! ===== what a row tells; fits ===== -/
def toS (N : Nat) (T : Nat → Int32) (sz : Nat) (v : Int32) : Int64 := stO (fun q => decide (q < sz) && decide (T q = v)) N
theorem toS_stop {T : Nat → Int32} {sz k N : Nat} {v : Int32} (hN : N ≤ 64) (hk : k ≤ N) (h : sz ≤ k ∨ N ≤ k) : stO (fun q => decide (q < sz) && decide (T q = v)) k = toS N T sz v := bt_ext (fun i hi => by
  unfold toS
  rw [bt_stO _ _ (by omega), bt_stO _ _ hN]
  by_cases e : i < k
  · rw [decide_eq_true e, decide_eq_true (show i < N by omega)]
  · rw [decide_eq_false e, Bool.false_and]
    by_cases e2 : i < N
    · rw [decide_eq_false (show ¬ i < sz by omega), Bool.false_and, Bool.and_false]
    · rw [decide_eq_false e2, Bool.false_and])
theorem s_only11 {d : Nat} {h : sHp} {p : Nat} {c : CF} {W H k : Nat} (hd : 2 ≤ d) (F : FC h p c) (g : gdF c W H) (hk : k < W * H) : sDo d 25 [.ref p, .int (Int32.ofNat k)] h (fun r h' => h' = h ∧ r = some (.long (Int64.ofNat 1 <<< ((Int32.ofNat k).toInt64 &&& 63)))) := by
  have hn := gdF_n g
  have ek := ofN_toInt (n := k) (by omega)
  refine sDo_of1 (nL := 2) (L := [some (.ref p), some (.int (Int32.ofNat k))]) (by omega) rfl rfl ?_
  refine g_aload_n (i := 0) rfl rfl ?_
  refine g_iload_n (i := 1) rfl rfl ?_
  refine g_virt1 (Qc := fun r h' => h' = h ∧ (((0 ≤ (Int32.ofNat k).toInt ∧ (Int32.ofNat k).toInt < ((W * H : Nat) : Int)) ∧ r = some (.int 1)) ∨ (¬ (0 ≤ (Int32.ofNat k).toInt ∧ (Int32.ofNat k).toInt < ((W * H : Nat) : Int)) ∧ r = some (.int 0)))) rfl (by decide) rfl F.1 rfl (Nat.le_of_ble_eq_true rfl) (s_isSq11 (by omega) F g) (fun r h hq9 => ?_)
  obtain ⟨rfl, ⟨c_1, rfl⟩ | ⟨c_1, rfl⟩⟩ := hq9
  · skip
    refine g_if_eq 14 rfl rfl (fun hc => absurd hc (by decide)) (fun _ => ?_)
    refine g_lconst (n := 1) rfl ?_
    show sGo none 25 _ 9 [some (.ref p), some (.int (Int32.ofNat k))] [.long (Int64.ofNat 1)] _ _
    refine g_iload_n (i := 1) rfl rfl ?_
    refine g_lshl rfl ?_
    refine g_goto 15 rfl rfl ?_
    refine g_lreturn rfl rfl ?_
    exact ⟨rfl, rfl⟩
  · skip
    omega
theorem s_toldBy_go {d : Nat} {h : sHp} {p : Nat} {c : CF} {W H : Nat} {tp ep n : Nat} {ot : Int32} {el : Nat → Int64} {v : Int32} (hd : 3 ≤ d) (F : FC h p c) (g : gdF c W H) (ht : h[tp]? = some (.inr (7, [.int ot, .int (Int32.ofNat n), .ref ep]))) (he : h[ep]? = some (.inl (1, 100, .inr (.inl el)))) (hn1 : n ≤ 100) : ∀ (f k : Nat), k + f = W * H → k ≤ W * H → sGo none 54 d 5 [some (.ref p), some (.ref tp), some (.int v), some (.long (stO (fun q => decide (q < n) && decide (tx el n q = v)) k)), none, some (.int (Int32.ofNat k))] [] h (fun r h' => h' = h ∧ r = some (.long (toS (W * H) (tx el n) n v))) := by
  have gd := g
  obtain ⟨gw, gh, w2, w8, h2, h8, g2, g3, g4, g5, g6⟩ := gd
  have hn := gdF_n g
  have hw0 : (c.1 0).toInt = ((W : Nat) : Int) := by rw [gw]; exact ofN_toInt (by omega)
  have hw1 : (c.1 1).toInt = ((H : Nat) : Int) := by rw [gh]; exact ofN_toInt (by omega)
  have hwn : (c.1 0 * c.1 1).toInt = ((W * H : Nat) : Int) := n_mul hw0 hw1 (by omega)
  have en := ofN_toInt (n := n) (by omega)
  intro f
  induction f with
  | zero =>
    intro k hk hk2
    have ek := ofN_toInt (n := k) (by omega)
    refine g_iload (i := 5) rfl rfl ?_
    refine g_aload_n (i := 0) rfl rfl ?_
    refine g_virt0 (Qc := fun r h' => h' = h ∧ r = some (.int (c.1 0 * c.1 1))) rfl (by decide) rfl F.1 rfl (Nat.le_of_ble_eq_true rfl) (sDo_up (d := 1) (by omega) (s_squares (d := 0) F)) (fun r h hq9 => ?_)
    obtain ⟨rfl, rfl⟩ := hq9
    refine g_icmp_ge 48 rfl rfl (fun _ => ?_) (fun hc => absurd hc (by rw [i_le, hwn, ek]; omega))
    refine g_lload_n (i := 3) rfl rfl ?_
    refine g_lreturn rfl rfl ?_
    exact ⟨rfl, congrArg (fun z => some (Value.long z)) (toS_stop hn.1 hk2 (by omega))⟩
  | succ f ih =>
    intro k hk hk2
    have ek := ofN_toInt (n := k) (by omega)
    refine g_iload (i := 5) rfl rfl ?_
    refine g_aload_n (i := 0) rfl rfl ?_
    refine g_virt0 (Qc := fun r h' => h' = h ∧ r = some (.int (c.1 0 * c.1 1))) rfl (by decide) rfl F.1 rfl (Nat.le_of_ble_eq_true rfl) (sDo_up (d := 1) (by omega) (s_squares (d := 0) F)) (fun r h hq9 => ?_)
    obtain ⟨rfl, rfl⟩ := hq9
    refine g_icmp_ge 48 rfl rfl (fun hc => absurd hc (by rw [i_le, hwn, ek]; omega)) (fun _ => ?_)
    refine g_iload (i := 5) rfl rfl ?_
    refine g_aload_n (i := 1) rfl rfl ?_
    refine g_getfield (v := .int (Int32.ofNat n)) rfl ht (by decide) rfl ?_
    refine g_icmp_ge 48 rfl rfl (fun c_1 => ?_) (fun c_1 => ?_)
    · skip
      rw [i_le, ek, en] at c_1
      refine g_lload_n (i := 3) rfl rfl ?_
      refine g_lreturn rfl rfl ?_
      exact ⟨rfl, congrArg (fun z => some (Value.long z)) (toS_stop hn.1 hk2 (by omega))⟩
    · skip
      rw [i_le, ek, en] at c_1
      refine g_aload_n (i := 1) rfl rfl ?_
      refine g_iload (i := 5) rfl rfl ?_
      refine g_virt1 (Qc := fun r h' => h' = h ∧ r = some (.int (tx el n k))) rfl (by decide) rfl ht rfl (Nat.le_of_ble_eq_true rfl) (sDo_up (d := 2) (by omega) (s_intR (d := 0) ht he hn1 ek)) (fun r h hq9 => ?_)
      obtain ⟨rfl, rfl⟩ := hq9
      refine g_iload_n (i := 2) rfl rfl ?_
      refine g_icmp_ne 42 rfl rfl (fun c_2 => ?_) (fun c_2 => ?_)
      · skip
        rw [i_eq] at c_2
        refine g_iinc (i := 5) (L1 := [some (.ref p), some (.ref tp), some (.int v), some (.long (stO (fun q => decide (q < n) && decide (tx el n q = v)) k)), none, some (.int ((Int32.ofNat k) + Int32.ofInt 1))]) rfl rfl rfl ?_
        rw [ofN_add (by omega)]
        refine g_goto 5 rfl rfl ?_
        exact (show stO (fun q => decide (q < n) && decide (tx el n q = v)) (k + 1) = _ from if_neg (show ¬ (decide (k < n) && decide (tx el n k = v)) = true by rw [decide_eq_false (fun z => c_2 (i_eq.mp z)), Bool.and_false]; decide)) ▸ ih (k + 1) (by omega) (by omega)
      · skip
        rw [i_eq] at c_2
        refine g_lload_n (i := 3) rfl rfl ?_
        refine g_aload_n (i := 0) rfl rfl ?_
        refine g_iload (i := 5) rfl rfl ?_
        refine g_virt1 (Qc := fun r h' => h' = h ∧ r = some (.long (Int64.ofNat 1 <<< ((Int32.ofNat k).toInt64 &&& 63)))) rfl (by decide) rfl F.1 rfl (Nat.le_of_ble_eq_true rfl) (s_only11 (by omega) F g (by omega)) (fun r h hq9 => ?_)
        obtain ⟨rfl, rfl⟩ := hq9
        refine g_lor rfl ?_
        refine g_lstore_n (i := 3) (L1 := [some (.ref p), some (.ref tp), some (.int v), some (.long ((stO (fun q => decide (q < n) && decide (tx el n q = v)) k) ||| (Int64.ofNat 1 <<< ((Int32.ofNat k).toInt64 &&& 63)))), none, some (.int (Int32.ofNat k))]) rfl (Nat.le_of_ble_eq_true rfl) rfl ?_
        refine g_iinc (i := 5) (L1 := [some (.ref p), some (.ref tp), some (.int v), some (.long ((stO (fun q => decide (q < n) && decide (tx el n q = v)) k) ||| (Int64.ofNat 1 <<< ((Int32.ofNat k).toInt64 &&& 63)))), none, some (.int ((Int32.ofNat k) + Int32.ofInt 1))]) rfl rfl rfl ?_
        rw [ofN_add (by omega)]
        refine g_goto 5 rfl rfl ?_
        exact (show stO (fun q => decide (q < n) && decide (tx el n q = v)) (k + 1) = _ from if_pos (show (decide (k < n) && decide (tx el n k = v)) = true by rw [decide_eq_true (show k < n by omega), decide_eq_true (i_eq.mpr c_2)]; rfl)) ▸ ih (k + 1) (by omega) (by omega)
theorem s_toldBy {d : Nat} {h : sHp} {p : Nat} {c : CF} {W H : Nat} {tp ep n : Nat} {ot : Int32} {el : Nat → Int64} {v : Int32} (hd : 4 ≤ d) (F : FC h p c) (g : gdF c W H) (ht : h[tp]? = some (.inr (7, [.int ot, .int (Int32.ofNat n), .ref ep]))) (he : h[ep]? = some (.inl (1, 100, .inr (.inl el)))) (hn1 : n ≤ 100) : sDo d 54 [.ref p, .ref tp, .int v] h (fun r h' => h' = h ∧ r = some (.long (toS (W * H) (tx el n) n v))) := by
  have key := s_toldBy_go (d := d - 1) (v := v) (by omega) F g ht he hn1 (W * H) 0 (by omega) (by omega)
  refine sDo_of1 (nL := 6) (L := [some (.ref p), some (.ref tp), some (.int v), none, none, none]) (by omega) rfl rfl ?_
  refine g_lconst (n := 0) rfl ?_
  show sGo none 54 _ 1 [some (.ref p), some (.ref tp), some (.int v), none, none, none] [.long (Int64.ofNat 0)] _ _
  refine g_lstore_n (i := 3) (L1 := [some (.ref p), some (.ref tp), some (.int v), some (.long (Int64.ofNat 0)), none, none]) rfl (Nat.le_of_ble_eq_true rfl) rfl ?_
  refine g_iconst (n := 0) rfl ?_
  refine g_istore (i := 5) (L1 := [some (.ref p), some (.ref tp), some (.int v), some (.long (Int64.ofNat 0)), none, some (.int (Int32.ofInt 0))]) rfl (Nat.le_of_ble_eq_true rfl) rfl ?_
  exact key
/-- a cut fits what a row tells -/
def fitP (W N C : Nat) (T : Nat → Int32) (sz : Nat) : Prop := ∀ q, q < N → q < sz → (T q = 0 → sdC W C q = 0) ∧ (T q = 1 → sdC W C q = 1)
theorem fit_iff {W N C sz : Nat} {T : Nat → Int32} (hN : N ≤ 64) : (toS N T sz 0 &&& (sdS W N C 0 ^^^ lM1)) ||| (toS N T sz 1 &&& (sdS W N C 1 ^^^ lM1)) = Int64.ofNat 0 ↔ fitP W N C T sz := by
  rw [bt_eq0]
  unfold fitP toS sdS
  constructor
  · intro h q h1 h2
    have k := h q (by omega)
    rw [bt_or, bt_and, bt_and, bt_not, bt_not, bt_stO _ _ hN, bt_stO _ _ hN, bt_stO _ _ hN, bt_stO _ _ hN, decide_eq_true h1, decide_eq_true h2, decide_eq_true (show q < 64 by omega), Bool.true_and, Bool.true_and, Bool.true_and, Bool.true_and, Bool.true_and, Bool.true_and, Bool.true_and, Bool.true_and, Bool.or_eq_false_iff] at k
    refine ⟨fun z => ?_, fun z => ?_⟩
    · have k1 := k.1
      rw [decide_eq_true z, Bool.true_and, Bool.not_eq_false', decide_eq_true_eq] at k1
      omega
    · have k1 := k.2
      rw [decide_eq_true z, Bool.true_and, Bool.not_eq_false', decide_eq_true_eq] at k1
      omega
  · intro h q hq
    rw [bt_or, bt_and, bt_and, bt_not, bt_not, bt_stO _ _ hN, bt_stO _ _ hN, bt_stO _ _ hN, bt_stO _ _ hN, decide_eq_true hq, Bool.true_and, Bool.true_and]
    by_cases h1 : q < N
    · by_cases h2 : q < sz
      · have k := h q h1 h2
        rw [decide_eq_true h1, decide_eq_true h2, Bool.true_and, Bool.true_and, Bool.true_and, Bool.true_and, Bool.true_and, Bool.true_and, Bool.or_eq_false_iff]
        refine ⟨?_, ?_⟩
        · by_cases z : T q = 0
          · rw [decide_eq_true (show ((sdC W C q : Nat) : Int) = 0 by rw [k.1 z]; rfl), Bool.not_true, Bool.and_false]
          · rw [decide_eq_false z, Bool.false_and]
        · by_cases z : T q = 1
          · rw [decide_eq_true (show ((sdC W C q : Nat) : Int) = 1 by rw [k.2 z]; rfl), Bool.not_true, Bool.and_false]
          · rw [decide_eq_false z, Bool.false_and]
      · rw [decide_eq_false h2]; simp
    · rw [decide_eq_false h1]; simp
theorem s_isFirst2 {d : Nat} {h : sHp} {J : Nat → Int32} {W H : Nat} {x : Int32} {C q : Nat} (hd : 1 ≤ d) (hr : h[60]? = some (mO J)) (g : gdM J W H) (hx : x.toInt = C) (hc : C < 7000) (hq : q < W * H) : sDo d 186 [.ref 60, .int x, .int (Int32.ofNat q)] h (fun r h' => h' = h ∧ (isF W C q = true ∧ r = some (.int 1) ∨ ¬ isF W C q = true ∧ r = some (.int 0))) := sDo_mono (s_isFirst hd hr g hx hc hq) (fun r h' q => ⟨q.1, by
  rw [q.2]
  unfold zI
  split
  · rename_i z; exact Or.inl ⟨z, rfl⟩
  · rename_i z; exact Or.inr ⟨z, rfl⟩⟩)
theorem s_intAt12 {d : Nat} {h : sHp} {J : Nat → Int32} {cl : Nat → Int64} {S k n : Nat} {s : Int32} {T : Nat → Int32} (hd : 1 ≤ d) (hr : h[60]? = some (mO J)) (a8 : h[71]? = some (.inl (1, 800, .inr (.inl cl)))) (hs : s.toInt = S) (RT1 : RT cl S n T) (hk : k < n) : sDo d 185 [.ref 60, .int s, .int (Int32.ofNat k)] h (fun r h' => h' = h ∧ r = some (.int (T k))) := by
  obtain ⟨R1, R2, R3, R4⟩ := RT1
  have ek := ofN_toInt (n := k) (by omega)
  have e1 : ((Int8.ofInt 100).toInt32 * s).toInt = ((100 * S : Nat) : Int) := n_mul (show (Int8.ofInt 100).toInt32.toInt = ((100 : Nat) : Int) from rfl) hs (by omega)
  refine sDo_of1 (nL := 3) (L := [some (.ref 60), some (.int s), some (.int (Int32.ofNat k))]) hd rfl rfl ?_
  refine g_aload_n (i := 0) rfl rfl ?_
  refine g_getfield (v := .ref 71) rfl hr (by decide) rfl ?_
  refine g_bipush (n := 100) rfl ?_
  refine g_iload_n (i := 1) rfl rfl ?_
  have k_1 : ((Int8.ofInt 100).toInt32).toInt = 100 := rfl
  refine g_imul rfl ?_
  refine g_iload_n (i := 2) rfl rfl ?_
  refine g_iadd rfl ?_
  have t_2 : (((Int8.ofInt 100).toInt32 * s) + (Int32.ofNat k)).toInt = ((100 * S + k : Nat) : Int) := by rw [i_add (by rw [e1, ek]; omega) (by rw [e1, ek]; omega), e1, ek]; omega
  refine g_laload (n := 800) (f := cl) rfl a8 (i_in (by omega) (by omega)) ?_
  rw [i_nat t_2]
  refine g_l2i rfl ?_
  refine g_ireturn (ty := .int) rfl rfl rfl ?_
  exact ⟨rfl, congrArg (fun z => some (Value.int z)) (R3 k hk)⟩
theorem s_isFit_go {d : Nat} {h : sHp} {J : Nat → Int32} {W H : Nat} {x s : Int32} {C S n : Nat} {sz : Nat → Int32} {cl : Nat → Int64} {T : Nat → Int32} (hd : 2 ≤ d) (hr : h[60]? = some (mO J)) (g : gdM J W H) (hx : x.toInt = C) (hc : C < 7000) (hs : s.toInt = S) (hS : S < 8) (a6 : h[69]? = some (.inl (0, 8, .inl sz))) (a8 : h[71]? = some (.inl (1, 800, .inr (.inl cl)))) (hz : sz S = Int32.ofNat n) (RT1 : RT cl S n T) : ∀ (f k : Nat) (o4 : Option Value), k + f = W * H → (∀ q, q < k → q < n → (T q = 0 → sdC W C q = 0) ∧ (T q = 1 → sdC W C q = 1)) → sGo none 243 d 2 [some (.ref 60), some (.int x), some (.int s), some (.int (Int32.ofNat k)), o4] [] h (fun r h' => h' = h ∧ (fitP W (W * H) C T n ∧ r = some (.int 1) ∨ ¬ fitP W (W * H) C T n ∧ r = some (.int 0))) := by
  have gd := g
  obtain ⟨gw, gh, w2, w8, h2, h8⟩ := gd
  have hn := gdM_n g
  have hw0 : (J 0).toInt = ((W : Nat) : Int) := by rw [gw]; exact ofN_toInt (by omega)
  have hw1 : (J 1).toInt = ((H : Nat) : Int) := by rw [gh]; exact ofN_toInt (by omega)
  have hwn : (J 0 * J 1).toInt = ((W * H : Nat) : Int) := n_mul hw0 hw1 (by omega)
  have hn1 := RT1.2.1
  have esz : (sz S).toInt = ((n : Nat) : Int) := by rw [hz]; exact ofN_toInt (by omega)
  intro f
  induction f with
  | zero =>
    intro k o4 hk hq
    have ek := ofN_toInt (n := k) (by omega)
    refine g_iload_n (i := 3) rfl rfl ?_
    refine g_aload_n (i := 0) rfl rfl ?_
    refine g_getfield (v := .int (J 0)) rfl hr (by decide) rfl ?_
    refine g_aload_n (i := 0) rfl rfl ?_
    refine g_getfield (v := .int (J 1)) rfl hr (by decide) rfl ?_
    refine g_imul rfl ?_
    refine g_icmp_ge 99 rfl rfl (fun _ => ?_) (fun hc => absurd hc (by rw [i_le, hwn, ek]; omega))
    refine g_iconst (n := 1) rfl ?_
    refine g_ireturn (ty := .boolean) rfl rfl (by decide) ?_
    exact ⟨rfl, Or.inl ⟨fun q h1 h2 => hq q (by omega) h2, rfl⟩⟩
  | succ f ih =>
    intro k o4 hk hq
    have ek := ofN_toInt (n := k) (by omega)
    have a0 : (x / (Int16.ofInt 1000).toInt32).toInt = ((C / 1000 : Nat) : Int) := n_div hx (show (Int16.ofInt 1000).toInt32.toInt = ((1000 : Nat) : Int) from rfl) (by decide)
    have a4 := n_rem ek hw0 (by omega)
    have nxt : ∀ o4, (k < n → (T k = 0 → sdC W C k = 0) ∧ (T k = 1 → sdC W C k = 1)) → sGo none 243 d 2 [some (.ref 60), some (.int x), some (.int s), some (.int (Int32.ofNat (k + 1))), o4] [] h (fun r h' => h' = h ∧ (fitP W (W * H) C T n ∧ r = some (.int 1) ∨ ¬ fitP W (W * H) C T n ∧ r = some (.int 0))) := fun o4 hk2 => ih (k + 1) o4 (by omega) (fun q h1 h2 => by
      by_cases e : q = k
      · subst e; exact hk2 h2
      · exact hq q (by omega) h2)
    have bad : k < n → ¬ ((T k = 0 → sdC W C k = 0) ∧ (T k = 1 → sdC W C k = 1)) → ¬ fitP W (W * H) C T n := fun h1 h2 z => h2 (z k (by omega) h1)
    have t0 : T k = 0 ↔ (T k).toInt = 0 := i_eq
    have t1 : T k = 1 ↔ (T k).toInt = 1 := i_eq
    rw [t0, t1] at nxt bad
    unfold sdC at nxt bad
    refine g_iload_n (i := 3) rfl rfl ?_
    refine g_aload_n (i := 0) rfl rfl ?_
    refine g_getfield (v := .int (J 0)) rfl hr (by decide) rfl ?_
    refine g_aload_n (i := 0) rfl rfl ?_
    refine g_getfield (v := .int (J 1)) rfl hr (by decide) rfl ?_
    refine g_imul rfl ?_
    refine g_icmp_ge 99 rfl rfl (fun hc => absurd hc (by rw [i_le, hwn, ek]; omega)) (fun _ => ?_)
    refine g_iload_n (i := 3) rfl rfl ?_
    refine g_aload_n (i := 0) rfl rfl ?_
    refine g_getfield (v := .ref 69) rfl hr (by decide) rfl ?_
    refine g_iload_n (i := 2) rfl rfl ?_
    refine g_iaload (n := 8) (f := sz) rfl a6 (i_in (by omega) (by omega)) ?_
    rw [i_nat hs]
    refine g_icmp_ge 99 rfl rfl (fun c_1 => ?_) (fun c_1 => ?_)
    · skip
      rw [i_le, ek, esz] at c_1
      refine g_iconst (n := 1) rfl ?_
      refine g_ireturn (ty := .boolean) rfl rfl (by decide) ?_
      exact ⟨rfl, Or.inl ⟨fun q h1 h2 => hq q (by omega) h2, rfl⟩⟩
    · skip
      rw [i_le, ek, esz] at c_1
      refine g_aload_n (i := 0) rfl rfl ?_
      refine g_iload_n (i := 2) rfl rfl ?_
      refine g_iload_n (i := 3) rfl rfl ?_
      have hkn : k < n := by omega
      refine g_virt2 (Qc := fun r h' => h' = h ∧ r = some (.int (T k))) rfl (by decide) rfl hr rfl (Nat.le_of_ble_eq_true rfl) (s_intAt12 (by omega) hr a8 hs RT1 hkn) (fun r h hq9 => ?_)
      obtain ⟨rfl, rfl⟩ := hq9
      refine g_istore (i := 4) (L1 := [some (.ref 60), some (.int x), some (.int s), some (.int (Int32.ofNat k)), some (.int (T k))]) rfl (Nat.le_of_ble_eq_true rfl) rfl ?_
      refine g_iload (i := 4) rfl rfl ?_
      have k_3 : (0 : Int32).toInt = 0 := rfl
      refine g_if_eq 47 rfl rfl (fun c_2 => ?_) (fun c_2 => ?_)
      · skip
        rw [i_eq, k_3] at c_2
        refine g_iload_n (i := 1) rfl rfl ?_
        refine g_sipush (n := 1000) rfl ?_
        have k_4 : ((Int16.ofInt 1000).toInt32).toInt = 1000 := rfl
        refine g_idiv rfl (by decide) ?_
        refine g_iconst (n := 3) rfl ?_
        have k_6 : (Int32.ofInt 3).toInt = 3 := rfl
        refine g_icmp_ne 72 rfl rfl (fun c_5 => ?_) (fun c_5 => ?_)
        · skip
          rw [i_eq, a0, k_6] at c_5
          refine g_aload_n (i := 0) rfl rfl ?_
          refine g_iload_n (i := 1) rfl rfl ?_
          refine g_iload_n (i := 3) rfl rfl ?_
          refine g_virt2 (Qc := fun r h' => h' = h ∧ (((isF W C k = true) ∧ r = some (.int 1)) ∨ (¬ (isF W C k = true) ∧ r = some (.int 0)))) rfl (by decide) rfl hr rfl (Nat.le_of_ble_eq_true rfl) (s_isFirst2 (C := C) (q := k) (by omega) hr g hx hc (by omega)) (fun r h hq9 => ?_)
          obtain ⟨rfl, ⟨c_7, rfl⟩ | ⟨c_7, rfl⟩⟩ := hq9
          · skip
            refine g_iload (i := 4) rfl rfl ?_
            refine g_if_ne 87 rfl rfl (fun c_8 => ?_) (fun c_8 => ?_)
            · skip
              rw [i_eq, k_3] at c_8
              refine g_iconst (n := 0) rfl ?_
              have k_10 : (1 : Int32).toInt = 1 := rfl
              have k_11 : (Int32.ofInt 0).toInt = 0 := rfl
              refine g_icmp_eq 93 rfl rfl (fun c_9 => ?_) (fun c_9 => ?_)
              · skip
                rw [i_eq, k_10, k_11] at c_9
                refine g_iinc (i := 3) (L1 := [some (.ref 60), some (.int x), some (.int s), some (.int ((Int32.ofNat k) + Int32.ofInt 1)), some (.int (T k))]) rfl rfl rfl ?_
                rw [ofN_add (by omega)]
                refine g_goto 2 rfl rfl ?_
                first | (exfalso; omega) | exact nxt _ (fun _ => by rw [if_neg (by omega), if_pos c_7]; omega)
              · skip
                rw [i_eq, k_10, k_11] at c_9
                refine g_iconst (n := 0) rfl ?_
                refine g_ireturn (ty := .boolean) rfl rfl (by decide) ?_
                first | (exfalso; omega) | exact ⟨rfl, Or.inr ⟨bad hkn (by rw [if_neg (by omega), if_pos c_7]; omega), rfl⟩⟩
            · skip
              rw [i_eq, k_3] at c_8
              refine g_iconst (n := 1) rfl ?_
              refine g_goto 88 rfl rfl ?_
              have k_13 : (1 : Int32).toInt = 1 := rfl
              have k_14 : (Int32.ofInt 1).toInt = 1 := rfl
              refine g_icmp_eq 93 rfl rfl (fun c_12 => ?_) (fun c_12 => ?_)
              · skip
                rw [i_eq, k_13, k_14] at c_12
                refine g_iinc (i := 3) (L1 := [some (.ref 60), some (.int x), some (.int s), some (.int ((Int32.ofNat k) + Int32.ofInt 1)), some (.int (T k))]) rfl rfl rfl ?_
                rw [ofN_add (by omega)]
                refine g_goto 2 rfl rfl ?_
                first | (exfalso; omega) | exact nxt _ (fun _ => by rw [if_neg (by omega), if_pos c_7]; omega)
              · skip
                rw [i_eq, k_13, k_14] at c_12
                refine g_iconst (n := 0) rfl ?_
                refine g_ireturn (ty := .boolean) rfl rfl (by decide) ?_
                first | (exfalso; omega) | exact ⟨rfl, Or.inr ⟨bad hkn (by rw [if_neg (by omega), if_pos c_7]; omega), rfl⟩⟩
          · skip
            refine g_iload (i := 4) rfl rfl ?_
            refine g_if_ne 87 rfl rfl (fun c_15 => ?_) (fun c_15 => ?_)
            · skip
              rw [i_eq, k_3] at c_15
              refine g_iconst (n := 0) rfl ?_
              have k_17 : (Int32.ofInt 0).toInt = 0 := rfl
              refine g_icmp_eq 93 rfl rfl (fun c_16 => ?_) (fun c_16 => ?_)
              · skip
                rw [i_eq, k_3, k_17] at c_16
                refine g_iinc (i := 3) (L1 := [some (.ref 60), some (.int x), some (.int s), some (.int ((Int32.ofNat k) + Int32.ofInt 1)), some (.int (T k))]) rfl rfl rfl ?_
                rw [ofN_add (by omega)]
                refine g_goto 2 rfl rfl ?_
                first | (exfalso; omega) | exact nxt _ (fun _ => by rw [if_neg (by omega), if_neg c_7]; omega)
              · skip
                rw [i_eq, k_3, k_17] at c_16
                refine g_iconst (n := 0) rfl ?_
                refine g_ireturn (ty := .boolean) rfl rfl (by decide) ?_
                first | (exfalso; omega) | exact ⟨rfl, Or.inr ⟨bad hkn (by rw [if_neg (by omega), if_neg c_7]; omega), rfl⟩⟩
            · skip
              rw [i_eq, k_3] at c_15
              refine g_iconst (n := 1) rfl ?_
              refine g_goto 88 rfl rfl ?_
              have k_19 : (Int32.ofInt 1).toInt = 1 := rfl
              refine g_icmp_eq 93 rfl rfl (fun c_18 => ?_) (fun c_18 => ?_)
              · skip
                rw [i_eq, k_3, k_19] at c_18
                refine g_iinc (i := 3) (L1 := [some (.ref 60), some (.int x), some (.int s), some (.int ((Int32.ofNat k) + Int32.ofInt 1)), some (.int (T k))]) rfl rfl rfl ?_
                rw [ofN_add (by omega)]
                refine g_goto 2 rfl rfl ?_
                first | (exfalso; omega) | exact nxt _ (fun _ => by rw [if_neg (by omega), if_neg c_7]; omega)
              · skip
                rw [i_eq, k_3, k_19] at c_18
                refine g_iconst (n := 0) rfl ?_
                refine g_ireturn (ty := .boolean) rfl rfl (by decide) ?_
                first | (exfalso; omega) | exact ⟨rfl, Or.inr ⟨bad hkn (by rw [if_neg (by omega), if_neg c_7]; omega), rfl⟩⟩
        · skip
          rw [i_eq, a0, k_6] at c_5
          refine g_iload_n (i := 3) rfl rfl ?_
          refine g_aload_n (i := 0) rfl rfl ?_
          refine g_getfield (v := .int (J 0)) rfl hr (by decide) rfl ?_
          refine g_irem rfl (by intro z; rw [z] at hw0; have e : (0 : Int32).toInt = 0 := rfl; omega) ?_
          refine g_iload_n (i := 1) rfl rfl ?_
          refine g_bipush (n := 100) rfl ?_
          have k_20 : ((Int8.ofInt 100).toInt32).toInt = 100 := rfl
          refine g_idiv rfl (by decide) ?_
          have t_21 : ((x / (Int8.ofInt 100).toInt32)).toInt = ((C / 100 : Nat) : Int) := n_div (X := C) (Y := 100) hx (show _ = ((100 : Nat) : Int) from k_20) (by omega)
          refine g_bipush (n := 10) rfl ?_
          have k_22 : ((Int8.ofInt 10).toInt32).toInt = 10 := rfl
          refine g_irem rfl (by decide) ?_
          have t_23 : (((x / (Int8.ofInt 100).toInt32) - (x / (Int8.ofInt 100).toInt32) / (Int8.ofInt 10).toInt32 * (Int8.ofInt 10).toInt32)).toInt = (((C / 100) % 10 : Nat) : Int) := n_rem (X := C / 100) (Y := 10) t_21 (show _ = ((10 : Nat) : Int) from k_22) (by omega)
          refine g_icmp_eq 91 rfl rfl (fun c_24 => ?_) (fun c_24 => ?_)
          · skip
            rw [i_eq, a4, t_23] at c_24
            refine g_iconst (n := 0) rfl ?_
            refine g_ireturn (ty := .boolean) rfl rfl (by decide) ?_
            first | (exfalso; omega) | exact ⟨rfl, Or.inr ⟨bad hkn (by rw [if_pos (by omega)]; omega), rfl⟩⟩
          · skip
            rw [i_eq, a4, t_23] at c_24
            refine g_aload_n (i := 0) rfl rfl ?_
            refine g_iload_n (i := 1) rfl rfl ?_
            refine g_iload_n (i := 3) rfl rfl ?_
            refine g_virt2 (Qc := fun r h' => h' = h ∧ (((isF W C k = true) ∧ r = some (.int 1)) ∨ (¬ (isF W C k = true) ∧ r = some (.int 0)))) rfl (by decide) rfl hr rfl (Nat.le_of_ble_eq_true rfl) (s_isFirst2 (C := C) (q := k) (by omega) hr g hx hc (by omega)) (fun r h hq9 => ?_)
            obtain ⟨rfl, ⟨c_25, rfl⟩ | ⟨c_25, rfl⟩⟩ := hq9
            · skip
              refine g_iload (i := 4) rfl rfl ?_
              refine g_if_ne 87 rfl rfl (fun c_26 => ?_) (fun c_26 => ?_)
              · skip
                rw [i_eq, k_3] at c_26
                refine g_iconst (n := 0) rfl ?_
                have k_28 : (1 : Int32).toInt = 1 := rfl
                have k_29 : (Int32.ofInt 0).toInt = 0 := rfl
                refine g_icmp_eq 93 rfl rfl (fun c_27 => ?_) (fun c_27 => ?_)
                · skip
                  rw [i_eq, k_28, k_29] at c_27
                  refine g_iinc (i := 3) (L1 := [some (.ref 60), some (.int x), some (.int s), some (.int ((Int32.ofNat k) + Int32.ofInt 1)), some (.int (T k))]) rfl rfl rfl ?_
                  rw [ofN_add (by omega)]
                  refine g_goto 2 rfl rfl ?_
                  first | (exfalso; omega) | exact nxt _ (fun _ => by rw [if_neg (by omega), if_pos c_25]; omega)
                · skip
                  rw [i_eq, k_28, k_29] at c_27
                  refine g_iconst (n := 0) rfl ?_
                  refine g_ireturn (ty := .boolean) rfl rfl (by decide) ?_
                  first | (exfalso; omega) | exact ⟨rfl, Or.inr ⟨bad hkn (by rw [if_neg (by omega), if_pos c_25]; omega), rfl⟩⟩
              · skip
                rw [i_eq, k_3] at c_26
                refine g_iconst (n := 1) rfl ?_
                refine g_goto 88 rfl rfl ?_
                have k_31 : (1 : Int32).toInt = 1 := rfl
                have k_32 : (Int32.ofInt 1).toInt = 1 := rfl
                refine g_icmp_eq 93 rfl rfl (fun c_30 => ?_) (fun c_30 => ?_)
                · skip
                  rw [i_eq, k_31, k_32] at c_30
                  refine g_iinc (i := 3) (L1 := [some (.ref 60), some (.int x), some (.int s), some (.int ((Int32.ofNat k) + Int32.ofInt 1)), some (.int (T k))]) rfl rfl rfl ?_
                  rw [ofN_add (by omega)]
                  refine g_goto 2 rfl rfl ?_
                  first | (exfalso; omega) | exact nxt _ (fun _ => by rw [if_neg (by omega), if_pos c_25]; omega)
                · skip
                  rw [i_eq, k_31, k_32] at c_30
                  refine g_iconst (n := 0) rfl ?_
                  refine g_ireturn (ty := .boolean) rfl rfl (by decide) ?_
                  first | (exfalso; omega) | exact ⟨rfl, Or.inr ⟨bad hkn (by rw [if_neg (by omega), if_pos c_25]; omega), rfl⟩⟩
            · skip
              refine g_iload (i := 4) rfl rfl ?_
              refine g_if_ne 87 rfl rfl (fun c_33 => ?_) (fun c_33 => ?_)
              · skip
                rw [i_eq, k_3] at c_33
                refine g_iconst (n := 0) rfl ?_
                have k_35 : (Int32.ofInt 0).toInt = 0 := rfl
                refine g_icmp_eq 93 rfl rfl (fun c_34 => ?_) (fun c_34 => ?_)
                · skip
                  rw [i_eq, k_3, k_35] at c_34
                  refine g_iinc (i := 3) (L1 := [some (.ref 60), some (.int x), some (.int s), some (.int ((Int32.ofNat k) + Int32.ofInt 1)), some (.int (T k))]) rfl rfl rfl ?_
                  rw [ofN_add (by omega)]
                  refine g_goto 2 rfl rfl ?_
                  first | (exfalso; omega) | exact nxt _ (fun _ => by rw [if_neg (by omega), if_neg c_25]; omega)
                · skip
                  rw [i_eq, k_3, k_35] at c_34
                  refine g_iconst (n := 0) rfl ?_
                  refine g_ireturn (ty := .boolean) rfl rfl (by decide) ?_
                  first | (exfalso; omega) | exact ⟨rfl, Or.inr ⟨bad hkn (by rw [if_neg (by omega), if_neg c_25]; omega), rfl⟩⟩
              · skip
                rw [i_eq, k_3] at c_33
                refine g_iconst (n := 1) rfl ?_
                refine g_goto 88 rfl rfl ?_
                have k_37 : (Int32.ofInt 1).toInt = 1 := rfl
                refine g_icmp_eq 93 rfl rfl (fun c_36 => ?_) (fun c_36 => ?_)
                · skip
                  rw [i_eq, k_3, k_37] at c_36
                  refine g_iinc (i := 3) (L1 := [some (.ref 60), some (.int x), some (.int s), some (.int ((Int32.ofNat k) + Int32.ofInt 1)), some (.int (T k))]) rfl rfl rfl ?_
                  rw [ofN_add (by omega)]
                  refine g_goto 2 rfl rfl ?_
                  first | (exfalso; omega) | exact nxt _ (fun _ => by rw [if_neg (by omega), if_neg c_25]; omega)
                · skip
                  rw [i_eq, k_3, k_37] at c_36
                  refine g_iconst (n := 0) rfl ?_
                  refine g_ireturn (ty := .boolean) rfl rfl (by decide) ?_
                  first | (exfalso; omega) | exact ⟨rfl, Or.inr ⟨bad hkn (by rw [if_neg (by omega), if_neg c_25]; omega), rfl⟩⟩
      · skip
        rw [i_eq, k_3] at c_2
        refine g_iload (i := 4) rfl rfl ?_
        refine g_iconst (n := 1) rfl ?_
        have k_39 : (Int32.ofInt 1).toInt = 1 := rfl
        refine g_icmp_eq 47 rfl rfl (fun c_38 => ?_) (fun c_38 => ?_)
        · skip
          rw [i_eq, k_39] at c_38
          refine g_iload_n (i := 1) rfl rfl ?_
          refine g_sipush (n := 1000) rfl ?_
          have k_40 : ((Int16.ofInt 1000).toInt32).toInt = 1000 := rfl
          refine g_idiv rfl (by decide) ?_
          refine g_iconst (n := 3) rfl ?_
          have k_42 : (Int32.ofInt 3).toInt = 3 := rfl
          refine g_icmp_ne 72 rfl rfl (fun c_41 => ?_) (fun c_41 => ?_)
          · skip
            rw [i_eq, a0, k_42] at c_41
            refine g_aload_n (i := 0) rfl rfl ?_
            refine g_iload_n (i := 1) rfl rfl ?_
            refine g_iload_n (i := 3) rfl rfl ?_
            refine g_virt2 (Qc := fun r h' => h' = h ∧ (((isF W C k = true) ∧ r = some (.int 1)) ∨ (¬ (isF W C k = true) ∧ r = some (.int 0)))) rfl (by decide) rfl hr rfl (Nat.le_of_ble_eq_true rfl) (s_isFirst2 (C := C) (q := k) (by omega) hr g hx hc (by omega)) (fun r h hq9 => ?_)
            obtain ⟨rfl, ⟨c_43, rfl⟩ | ⟨c_43, rfl⟩⟩ := hq9
            · skip
              refine g_iload (i := 4) rfl rfl ?_
              refine g_if_ne 87 rfl rfl (fun c_44 => ?_) (fun c_44 => ?_)
              · skip
                rw [i_eq, k_3] at c_44
                refine g_iconst (n := 0) rfl ?_
                have k_46 : (1 : Int32).toInt = 1 := rfl
                have k_47 : (Int32.ofInt 0).toInt = 0 := rfl
                refine g_icmp_eq 93 rfl rfl (fun c_45 => ?_) (fun c_45 => ?_)
                · skip
                  rw [i_eq, k_46, k_47] at c_45
                  refine g_iinc (i := 3) (L1 := [some (.ref 60), some (.int x), some (.int s), some (.int ((Int32.ofNat k) + Int32.ofInt 1)), some (.int (T k))]) rfl rfl rfl ?_
                  rw [ofN_add (by omega)]
                  refine g_goto 2 rfl rfl ?_
                  first | (exfalso; omega) | exact nxt _ (fun _ => by rw [if_neg (by omega), if_pos c_43]; omega)
                · skip
                  rw [i_eq, k_46, k_47] at c_45
                  refine g_iconst (n := 0) rfl ?_
                  refine g_ireturn (ty := .boolean) rfl rfl (by decide) ?_
                  first | (exfalso; omega) | exact ⟨rfl, Or.inr ⟨bad hkn (by rw [if_neg (by omega), if_pos c_43]; omega), rfl⟩⟩
              · skip
                rw [i_eq, k_3] at c_44
                refine g_iconst (n := 1) rfl ?_
                refine g_goto 88 rfl rfl ?_
                have k_49 : (1 : Int32).toInt = 1 := rfl
                refine g_icmp_eq 93 rfl rfl (fun c_48 => ?_) (fun c_48 => ?_)
                · skip
                  rw [i_eq, k_49, k_39] at c_48
                  refine g_iinc (i := 3) (L1 := [some (.ref 60), some (.int x), some (.int s), some (.int ((Int32.ofNat k) + Int32.ofInt 1)), some (.int (T k))]) rfl rfl rfl ?_
                  rw [ofN_add (by omega)]
                  refine g_goto 2 rfl rfl ?_
                  first | (exfalso; omega) | exact nxt _ (fun _ => by rw [if_neg (by omega), if_pos c_43]; omega)
                · skip
                  rw [i_eq, k_49, k_39] at c_48
                  refine g_iconst (n := 0) rfl ?_
                  refine g_ireturn (ty := .boolean) rfl rfl (by decide) ?_
                  first | (exfalso; omega) | exact ⟨rfl, Or.inr ⟨bad hkn (by rw [if_neg (by omega), if_pos c_43]; omega), rfl⟩⟩
            · skip
              refine g_iload (i := 4) rfl rfl ?_
              refine g_if_ne 87 rfl rfl (fun c_50 => ?_) (fun c_50 => ?_)
              · skip
                rw [i_eq, k_3] at c_50
                refine g_iconst (n := 0) rfl ?_
                have k_52 : (Int32.ofInt 0).toInt = 0 := rfl
                refine g_icmp_eq 93 rfl rfl (fun c_51 => ?_) (fun c_51 => ?_)
                · skip
                  rw [i_eq, k_3, k_52] at c_51
                  refine g_iinc (i := 3) (L1 := [some (.ref 60), some (.int x), some (.int s), some (.int ((Int32.ofNat k) + Int32.ofInt 1)), some (.int (T k))]) rfl rfl rfl ?_
                  rw [ofN_add (by omega)]
                  refine g_goto 2 rfl rfl ?_
                  first | (exfalso; omega) | exact nxt _ (fun _ => by rw [if_neg (by omega), if_neg c_43]; omega)
                · skip
                  rw [i_eq, k_3, k_52] at c_51
                  refine g_iconst (n := 0) rfl ?_
                  refine g_ireturn (ty := .boolean) rfl rfl (by decide) ?_
                  first | (exfalso; omega) | exact ⟨rfl, Or.inr ⟨bad hkn (by rw [if_neg (by omega), if_neg c_43]; omega), rfl⟩⟩
              · skip
                rw [i_eq, k_3] at c_50
                refine g_iconst (n := 1) rfl ?_
                refine g_goto 88 rfl rfl ?_
                refine g_icmp_eq 93 rfl rfl (fun c_53 => ?_) (fun c_53 => ?_)
                · skip
                  rw [i_eq, k_3, k_39] at c_53
                  refine g_iinc (i := 3) (L1 := [some (.ref 60), some (.int x), some (.int s), some (.int ((Int32.ofNat k) + Int32.ofInt 1)), some (.int (T k))]) rfl rfl rfl ?_
                  rw [ofN_add (by omega)]
                  refine g_goto 2 rfl rfl ?_
                  first | (exfalso; omega) | exact nxt _ (fun _ => by rw [if_neg (by omega), if_neg c_43]; omega)
                · skip
                  rw [i_eq, k_3, k_39] at c_53
                  refine g_iconst (n := 0) rfl ?_
                  refine g_ireturn (ty := .boolean) rfl rfl (by decide) ?_
                  first | (exfalso; omega) | exact ⟨rfl, Or.inr ⟨bad hkn (by rw [if_neg (by omega), if_neg c_43]; omega), rfl⟩⟩
          · skip
            rw [i_eq, a0, k_42] at c_41
            refine g_iload_n (i := 3) rfl rfl ?_
            refine g_aload_n (i := 0) rfl rfl ?_
            refine g_getfield (v := .int (J 0)) rfl hr (by decide) rfl ?_
            refine g_irem rfl (by intro z; rw [z] at hw0; have e : (0 : Int32).toInt = 0 := rfl; omega) ?_
            refine g_iload_n (i := 1) rfl rfl ?_
            refine g_bipush (n := 100) rfl ?_
            have k_54 : ((Int8.ofInt 100).toInt32).toInt = 100 := rfl
            refine g_idiv rfl (by decide) ?_
            have t_55 : ((x / (Int8.ofInt 100).toInt32)).toInt = ((C / 100 : Nat) : Int) := n_div (X := C) (Y := 100) hx (show _ = ((100 : Nat) : Int) from k_54) (by omega)
            refine g_bipush (n := 10) rfl ?_
            have k_56 : ((Int8.ofInt 10).toInt32).toInt = 10 := rfl
            refine g_irem rfl (by decide) ?_
            have t_57 : (((x / (Int8.ofInt 100).toInt32) - (x / (Int8.ofInt 100).toInt32) / (Int8.ofInt 10).toInt32 * (Int8.ofInt 10).toInt32)).toInt = (((C / 100) % 10 : Nat) : Int) := n_rem (X := C / 100) (Y := 10) t_55 (show _ = ((10 : Nat) : Int) from k_56) (by omega)
            refine g_icmp_eq 91 rfl rfl (fun c_58 => ?_) (fun c_58 => ?_)
            · skip
              rw [i_eq, a4, t_57] at c_58
              refine g_iconst (n := 0) rfl ?_
              refine g_ireturn (ty := .boolean) rfl rfl (by decide) ?_
              first | (exfalso; omega) | exact ⟨rfl, Or.inr ⟨bad hkn (by rw [if_pos (by omega)]; omega), rfl⟩⟩
            · skip
              rw [i_eq, a4, t_57] at c_58
              refine g_aload_n (i := 0) rfl rfl ?_
              refine g_iload_n (i := 1) rfl rfl ?_
              refine g_iload_n (i := 3) rfl rfl ?_
              refine g_virt2 (Qc := fun r h' => h' = h ∧ (((isF W C k = true) ∧ r = some (.int 1)) ∨ (¬ (isF W C k = true) ∧ r = some (.int 0)))) rfl (by decide) rfl hr rfl (Nat.le_of_ble_eq_true rfl) (s_isFirst2 (C := C) (q := k) (by omega) hr g hx hc (by omega)) (fun r h hq9 => ?_)
              obtain ⟨rfl, ⟨c_59, rfl⟩ | ⟨c_59, rfl⟩⟩ := hq9
              · skip
                refine g_iload (i := 4) rfl rfl ?_
                refine g_if_ne 87 rfl rfl (fun c_60 => ?_) (fun c_60 => ?_)
                · skip
                  rw [i_eq, k_3] at c_60
                  refine g_iconst (n := 0) rfl ?_
                  have k_62 : (1 : Int32).toInt = 1 := rfl
                  have k_63 : (Int32.ofInt 0).toInt = 0 := rfl
                  refine g_icmp_eq 93 rfl rfl (fun c_61 => ?_) (fun c_61 => ?_)
                  · skip
                    rw [i_eq, k_62, k_63] at c_61
                    refine g_iinc (i := 3) (L1 := [some (.ref 60), some (.int x), some (.int s), some (.int ((Int32.ofNat k) + Int32.ofInt 1)), some (.int (T k))]) rfl rfl rfl ?_
                    rw [ofN_add (by omega)]
                    refine g_goto 2 rfl rfl ?_
                    first | (exfalso; omega) | exact nxt _ (fun _ => by rw [if_neg (by omega), if_pos c_59]; omega)
                  · skip
                    rw [i_eq, k_62, k_63] at c_61
                    refine g_iconst (n := 0) rfl ?_
                    refine g_ireturn (ty := .boolean) rfl rfl (by decide) ?_
                    first | (exfalso; omega) | exact ⟨rfl, Or.inr ⟨bad hkn (by rw [if_neg (by omega), if_pos c_59]; omega), rfl⟩⟩
                · skip
                  rw [i_eq, k_3] at c_60
                  refine g_iconst (n := 1) rfl ?_
                  refine g_goto 88 rfl rfl ?_
                  have k_65 : (1 : Int32).toInt = 1 := rfl
                  refine g_icmp_eq 93 rfl rfl (fun c_64 => ?_) (fun c_64 => ?_)
                  · skip
                    rw [i_eq, k_65, k_39] at c_64
                    refine g_iinc (i := 3) (L1 := [some (.ref 60), some (.int x), some (.int s), some (.int ((Int32.ofNat k) + Int32.ofInt 1)), some (.int (T k))]) rfl rfl rfl ?_
                    rw [ofN_add (by omega)]
                    refine g_goto 2 rfl rfl ?_
                    first | (exfalso; omega) | exact nxt _ (fun _ => by rw [if_neg (by omega), if_pos c_59]; omega)
                  · skip
                    rw [i_eq, k_65, k_39] at c_64
                    refine g_iconst (n := 0) rfl ?_
                    refine g_ireturn (ty := .boolean) rfl rfl (by decide) ?_
                    first | (exfalso; omega) | exact ⟨rfl, Or.inr ⟨bad hkn (by rw [if_neg (by omega), if_pos c_59]; omega), rfl⟩⟩
              · skip
                refine g_iload (i := 4) rfl rfl ?_
                refine g_if_ne 87 rfl rfl (fun c_66 => ?_) (fun c_66 => ?_)
                · skip
                  rw [i_eq, k_3] at c_66
                  refine g_iconst (n := 0) rfl ?_
                  have k_68 : (Int32.ofInt 0).toInt = 0 := rfl
                  refine g_icmp_eq 93 rfl rfl (fun c_67 => ?_) (fun c_67 => ?_)
                  · skip
                    rw [i_eq, k_3, k_68] at c_67
                    refine g_iinc (i := 3) (L1 := [some (.ref 60), some (.int x), some (.int s), some (.int ((Int32.ofNat k) + Int32.ofInt 1)), some (.int (T k))]) rfl rfl rfl ?_
                    rw [ofN_add (by omega)]
                    refine g_goto 2 rfl rfl ?_
                    first | (exfalso; omega) | exact nxt _ (fun _ => by rw [if_neg (by omega), if_neg c_59]; omega)
                  · skip
                    rw [i_eq, k_3, k_68] at c_67
                    refine g_iconst (n := 0) rfl ?_
                    refine g_ireturn (ty := .boolean) rfl rfl (by decide) ?_
                    first | (exfalso; omega) | exact ⟨rfl, Or.inr ⟨bad hkn (by rw [if_neg (by omega), if_neg c_59]; omega), rfl⟩⟩
                · skip
                  rw [i_eq, k_3] at c_66
                  refine g_iconst (n := 1) rfl ?_
                  refine g_goto 88 rfl rfl ?_
                  refine g_icmp_eq 93 rfl rfl (fun c_69 => ?_) (fun c_69 => ?_)
                  · skip
                    rw [i_eq, k_3, k_39] at c_69
                    refine g_iinc (i := 3) (L1 := [some (.ref 60), some (.int x), some (.int s), some (.int ((Int32.ofNat k) + Int32.ofInt 1)), some (.int (T k))]) rfl rfl rfl ?_
                    rw [ofN_add (by omega)]
                    refine g_goto 2 rfl rfl ?_
                    first | (exfalso; omega) | exact nxt _ (fun _ => by rw [if_neg (by omega), if_neg c_59]; omega)
                  · skip
                    rw [i_eq, k_3, k_39] at c_69
                    refine g_iconst (n := 0) rfl ?_
                    refine g_ireturn (ty := .boolean) rfl rfl (by decide) ?_
                    first | (exfalso; omega) | exact ⟨rfl, Or.inr ⟨bad hkn (by rw [if_neg (by omega), if_neg c_59]; omega), rfl⟩⟩
        · skip
          rw [i_eq, k_39] at c_38
          refine g_goto 93 rfl rfl ?_
          refine g_iinc (i := 3) (L1 := [some (.ref 60), some (.int x), some (.int s), some (.int ((Int32.ofNat k) + Int32.ofInt 1)), some (.int (T k))]) rfl rfl rfl ?_
          rw [ofN_add (by omega)]
          refine g_goto 2 rfl rfl ?_
          first | (exfalso; omega) | exact nxt _ (fun _ => by omega)
theorem s_isFit {d : Nat} {h : sHp} {J : Nat → Int32} {W H : Nat} {x s : Int32} {C S n : Nat} {sz : Nat → Int32} {cl : Nat → Int64} {T : Nat → Int32} (hd : 3 ≤ d) (hr : h[60]? = some (mO J)) (g : gdM J W H) (hx : x.toInt = C) (hc : C < 7000) (hs : s.toInt = S) (hS : S < 8) (a6 : h[69]? = some (.inl (0, 8, .inl sz))) (a8 : h[71]? = some (.inl (1, 800, .inr (.inl cl)))) (hz : sz S = Int32.ofNat n) (RT1 : RT cl S n T) : sDo d 243 [.ref 60, .int x, .int s] h (fun r h' => h' = h ∧ (fitP W (W * H) C T n ∧ r = some (.int 1) ∨ ¬ fitP W (W * H) C T n ∧ r = some (.int 0))) := by
  have key := s_isFit_go (d := d - 1) (by omega) hr g hx hc hs hS a6 a8 hz RT1 (W * H) 0 none (by omega) (fun q h1 _ => absurd h1 (Nat.not_lt_zero q))
  refine sDo_of1 (nL := 5) (L := [some (.ref 60), some (.int x), some (.int s), none, none]) (by omega) rfl rfl ?_
  refine g_iconst (n := 0) rfl ?_
  refine g_istore_n (i := 3) (L1 := [some (.ref 60), some (.int x), some (.int s), some (.int (Int32.ofInt 0)), none]) rfl (Nat.le_of_ble_eq_true rfl) rfl ?_
  exact key
end
section
/-! ===== fits: the pair ===== -/
/-- of two refusals the first in the document's order (0: none) -/
def emin (a b : Nat) : Nat := if a = 1 ∨ b = 1 then 1 else if a = 2 ∨ b = 2 then 2 else if a = 3 ∨ b = 3 then 3 else 0
theorem s_earlierE {d : Nat} {h : sHp} {x y : Int32} {a b : Nat} (hd : 2 ≤ d) (hx : x.toInt = -(a : Int)) (hy : y.toInt = -(b : Int)) (ha : a ≤ 3) (hb : b ≤ 3) : sDo d 159 [.int x, .int y] h (fun r h' => h' = h ∧ ∃ z : Int32, r = some (.int z) ∧ z.toInt = -((emin a b : Nat) : Int)) := by
  unfold emin
  refine sDo_of1 (nL := 2) (L := [some (.int x), some (.int y)]) (by omega) rfl rfl ?_
  refine g_iload_n (i := 0) rfl rfl ?_
  have k_2 : (0 : Int32).toInt = 0 := rfl
  refine g_if_ne 6 rfl rfl (fun c_1 => ?_) (fun c_1 => ?_)
  · skip
    rw [i_eq, hx, k_2] at c_1
    refine g_iload_n (i := 1) rfl rfl ?_
    refine g_if_ne 14 rfl rfl (fun c_3 => ?_) (fun c_3 => ?_)
    · skip
      rw [i_eq, hy, k_2] at c_3
      refine g_iload_n (i := 0) rfl rfl ?_
      refine g_iload_n (i := 1) rfl rfl ?_
      refine g_max rfl (Nat.le_of_ble_eq_true rfl) ?_
      refine g_ireturn (ty := .int) rfl rfl rfl ?_
      refine ⟨rfl, _, rfl, ?_⟩
      split
      · rename_i z; rw [i_lt, hx, hy] at z; rw [hy]; repeat' split
        all_goals omega
      · rename_i z; rw [i_lt, hx, hy] at z; rw [hx]; repeat' split
        all_goals omega
    · skip
      rw [i_eq, hy, k_2] at c_3
      refine g_iload_n (i := 0) rfl rfl ?_
      refine g_goto 19 rfl rfl ?_
      refine g_ireturn (ty := .int) rfl rfl rfl ?_
      refine ⟨rfl, _, rfl, ?_⟩
      rw [hx]; repeat' split
      all_goals omega
  · skip
    rw [i_eq, hx, k_2] at c_1
    refine g_iload_n (i := 1) rfl rfl ?_
    refine g_ireturn (ty := .int) rfl rfl rfl ?_
    refine ⟨rfl, _, rfl, ?_⟩
    rw [hy]; repeat' split
    all_goals omega
theorem s_fits11n {d : Nat} {h : sHp} {ik tf s t x y : Int32} {R : Nat → Int32} {a b : Nat} (hd : 3 ≤ d) (h0 : h[0]? = some (cO ik tf)) (hR : h[43]? = some (rFc R)) (hx : x.toInt = -(a : Int)) (hy : y.toInt = -(b : Int)) (ha : a ≤ 3) (hb : b ≤ 3) (he : emin a b ≠ 0) (hnc : sDo (d - 1) 162 [.ref 0, .int s] h (fun r h' => h' = h ∧ r = some (.int x))) (hnr : sDo (d - 1) 161 [.ref 0, .int t] h (fun r h' => h' = h ∧ r = some (.int y))) : sDo d 148 [.ref 0, .int s, .int t] h (fun r h' => r = some (.int (-(Int32.ofNat (emin a b)))) ∧ h' = h.set 43 (rFc (bump R (emin a b)))) := by
  have e3 : emin a b ≤ 3 := by unfold emin; repeat' split
                               all_goals omega
  refine sDo_of1 (nL := 8) (L := [some (.ref 0), some (.int s), some (.int t), none, none, none, none, none]) (by omega) rfl rfl ?_
  refine g_aload_n (i := 0) rfl rfl ?_
  refine g_iload_n (i := 1) rfl rfl ?_
  refine g_virt1 (Qc := fun r h' => h' = h ∧ r = some (.int x)) rfl (by decide) rfl h0 rfl (Nat.le_of_ble_eq_true rfl) (hnc) (fun r h hq9 => ?_)
  obtain ⟨rfl, rfl⟩ := hq9
  refine g_aload_n (i := 0) rfl rfl ?_
  refine g_iload_n (i := 2) rfl rfl ?_
  refine g_virt1 (Qc := fun r h' => h' = h ∧ r = some (.int y)) rfl (by decide) rfl h0 rfl (Nat.le_of_ble_eq_true rfl) (hnr) (fun r h hq9 => ?_)
  obtain ⟨rfl, rfl⟩ := hq9
  refine g_static2 (Qc := fun r h' => h' = h ∧ ∃ z : Int32, r = some (.int z) ∧ z.toInt = -((emin a b : Nat) : Int)) rfl (by decide) rfl (Nat.le_of_ble_eq_true rfl) (s_earlierE (by omega) hx hy ha hb) (fun r h hq9 => ?_)
  obtain ⟨rfl, z, rfl, hz⟩ := hq9
  have hz0 : ¬ z = 0 := fun q => by rw [q] at hz; have e : (0 : Int32).toInt = 0 := rfl; omega
  have hzz : z = -(Int32.ofNat (emin a b)) := Int32.toInt_inj.mp (by rw [hz, i_neg (by rw [ofN_toInt (by omega)]; omega), ofN_toInt (by omega)])
  refine g_istore_n (i := 3) (L1 := [some (.ref 0), some (.int s), some (.int t), some (.int z), none, none, none, none]) rfl (Nat.le_of_ble_eq_true rfl) rfl ?_
  refine g_iload_n (i := 3) rfl rfl ?_
  refine g_if_eq 24 rfl rfl (fun hc => absurd hc (by exact hz0)) (fun _ => ?_)
  refine g_aload_n (i := 0) rfl rfl ?_
  refine g_iload_n (i := 3) rfl rfl ?_
  refine g_virt1 (Qc := fun r h' => r = some (.int z) ∧ h' = h.set 43 (rFc (bump R (emin a b)))) rfl (by decide) rfl h0 rfl (Nat.le_of_ble_eq_true rfl) (s_refuse2 (by omega) h0 hR hz (by omega)) (fun r h9 hq9 => ?_)
  obtain ⟨rfl, rfl⟩ := hq9
  refine g_ireturn (ty := .int) rfl rfl rfl ?_
  exact ⟨by rw [hzz], rfl⟩
theorem s_fits11c {d : Nat} {h : sHp} {ik tf : Int32} {c : CF} {W H : Nat} {gg : Nat → Option Nat} {s x : Int32} {S pc C : Nat} {tp ep n : Nat} {ot : Int32} {el : Nat → Int64} {t : Int32} {T : Nat} {f : Nat → Option Nat} (hd : 7 ≤ d) (h0 : h[0]? = some (cO ik tf)) (F : FC h 5 c) (g : gdF c W H) (a3 : h[2]? = some (.inl (4, 8, .inr (.inr (.inr (.inr gg)))))) (hs : s.toInt = S) (hS : S < 8) (hg : gg S = some pc) (hc : C < 7000) (a : h[pc]? = some (.inr (bKl7 (C / 1000), cutFs (Int32.ofNat S) x))) (hx : x.toInt = C) (h1 : h[1]? = some (.inl (3, 8, .inr (.inr (.inr (.inr f)))))) (hT : t.toInt = T) (hT8 : T < 8) (hf : f T = some tp) (ht : h[tp]? = some (.inr (7, [.int ot, .int (Int32.ofNat n), .ref ep]))) (he : h[ep]? = some (.inl (1, 100, .inr (.inl el)))) (hn1 : n ≤ 100) (hnc : sDo (d - 1) 162 [.ref 0, .int s] h (fun r h' => h' = h ∧ r = some (.int 0))) (hnr : sDo (d - 1) 161 [.ref 0, .int t] h (fun r h' => h' = h ∧ r = some (.int 0))) : sDo d 148 [.ref 0, .int s, .int t] h (fun r h' => h' = h ∧ (fitP W (W * H) C (tx el n) n ∧ r = some (.int 1) ∨ ¬ fitP W (W * H) C (tx el n) n ∧ r = some (.int 0))) := by
  have key := fit_iff (W := W) (C := C) (sz := n) (T := tx el n) (gdF_n g).1
  have sd0 := fun k => s_sideOf11 (d := d - 1) (side := k) (by omega) h0 rfl F g hc rfl a hx
  have ear : sDo (d - 1) 159 [.int 0, .int 0] h (fun r h' => h' = h ∧ r = some (.int 0)) := sDo_mono (s_earlierE (a := 0) (b := 0) (by omega) rfl rfl (by decide) (by decide)) (fun r h' q => ⟨q.1, by
    obtain ⟨-, z, rfl, hz⟩ := q
    exact congrArg (fun z => some (Value.int z)) (Int32.toInt_inj.mp hz)⟩)
  refine sDo_of1 (nL := 8) (L := [some (.ref 0), some (.int s), some (.int t), none, none, none, none, none]) (by omega) rfl rfl ?_
  refine g_aload_n (i := 0) rfl rfl ?_
  refine g_iload_n (i := 1) rfl rfl ?_
  refine g_virt1 (Qc := fun r h' => h' = h ∧ r = some (.int 0)) rfl (by decide) rfl h0 rfl (Nat.le_of_ble_eq_true rfl) (hnc) (fun r h hq9 => ?_)
  obtain ⟨rfl, rfl⟩ := hq9
  refine g_aload_n (i := 0) rfl rfl ?_
  refine g_iload_n (i := 2) rfl rfl ?_
  refine g_virt1 (Qc := fun r h' => h' = h ∧ r = some (.int 0)) rfl (by decide) rfl h0 rfl (Nat.le_of_ble_eq_true rfl) (hnr) (fun r h hq9 => ?_)
  obtain ⟨rfl, rfl⟩ := hq9
  refine g_static2 (Qc := fun r h' => h' = h ∧ r = some (.int 0)) rfl (by decide) rfl (Nat.le_of_ble_eq_true rfl) (ear) (fun r h hq9 => ?_)
  obtain ⟨rfl, rfl⟩ := hq9
  refine g_istore_n (i := 3) (L1 := [some (.ref 0), some (.int s), some (.int t), some (.int 0), none, none, none, none]) rfl (Nat.le_of_ble_eq_true rfl) rfl ?_
  refine g_iload_n (i := 3) rfl rfl ?_
  refine g_if_eq 24 rfl rfl (fun _ => ?_) (fun hc => absurd hc (by decide))
  refine g_aload_n (i := 0) rfl rfl ?_
  refine g_getfield (v := .ref 5) rfl h0 (by decide) rfl ?_
  refine g_aload_n (i := 0) rfl rfl ?_
  refine g_getfield (v := .ref 1) rfl h0 (by decide) rfl ?_
  refine g_iload_n (i := 2) rfl rfl ?_
  refine g_aaload rfl h1 (by decide) (i_in (by omega) (by omega)) ?_
  rw [i_nat hT, hf]
  show sGo none 148 _ 34 [some (.ref 0), some (.int s), some (.int t), some (.int 0), none, none, none, none] (.ref tp :: [.ref 5]) _ _
  refine g_iconst (n := 0) rfl ?_
  refine g_virt2 (Qc := fun r h' => h' = h ∧ r = some (.long (toS (W * H) (tx el n) n 0))) rfl (by decide) rfl F.1 rfl (Nat.le_of_ble_eq_true rfl) (s_toldBy (v := (Int32.ofInt 0)) (by omega) F g ht he hn1) (fun r h hq9 => ?_)
  obtain ⟨rfl, rfl⟩ := hq9
  refine g_aload_n (i := 0) rfl rfl ?_
  refine g_aload_n (i := 0) rfl rfl ?_
  refine g_getfield (v := .ref 2) rfl h0 (by decide) rfl ?_
  refine g_iload_n (i := 1) rfl rfl ?_
  have gS : va_rf (gg s.toNatClampNeg) = .ref pc := by rw [i_nat hs, hg]; rfl
  refine g_aaload rfl a3 (by decide) (i_in (by omega) (by omega)) ?_
  rw [i_nat hs, hg]
  show sGo none 148 _ 45 [some (.ref 0), some (.int s), some (.int t), some (.int 0), none, none, none, none] (.ref pc :: [.ref 0, .long (toS (W * H) (tx el n) n 0)]) _ _
  refine g_iconst (n := 0) rfl ?_
  refine g_virt2 (Qc := fun r h' => h' = h ∧ r = some (.long (sdS W (W * H) C 0))) rfl (by decide) rfl h0 rfl (Nat.le_of_ble_eq_true rfl) (sd0 ((Int32.ofInt 0))) (fun r h hq9 => ?_)
  obtain ⟨rfl, rfl⟩ := hq9
  refine g_ldc2_w (j := 18446744073709551615) rfl ?_
  refine g_lxor rfl ?_
  refine g_land rfl ?_
  refine g_lstore (i := 4) (L1 := [some (.ref 0), some (.int s), some (.int t), some (.int 0), some (.long ((toS (W * H) (tx el n) n 0) &&& ((sdS W (W * H) C 0) ^^^ (Int64.ofNat 18446744073709551615)))), none, none, none]) rfl (Nat.le_of_ble_eq_true rfl) rfl ?_
  refine g_aload_n (i := 0) rfl rfl ?_
  refine g_getfield (v := .ref 5) rfl h0 (by decide) rfl ?_
  refine g_aload_n (i := 0) rfl rfl ?_
  refine g_getfield (v := .ref 1) rfl h0 (by decide) rfl ?_
  refine g_iload_n (i := 2) rfl rfl ?_
  refine g_aaload rfl h1 (by decide) (i_in (by omega) (by omega)) ?_
  rw [i_nat hT, hf]
  show sGo none 148 _ 66 [some (.ref 0), some (.int s), some (.int t), some (.int 0), some (.long ((toS (W * H) (tx el n) n 0) &&& ((sdS W (W * H) C 0) ^^^ (Int64.ofNat 18446744073709551615)))), none, none, none] (.ref tp :: [.ref 5]) _ _
  refine g_iconst (n := 1) rfl ?_
  refine g_virt2 (Qc := fun r h' => h' = h ∧ r = some (.long (toS (W * H) (tx el n) n 1))) rfl (by decide) rfl F.1 rfl (Nat.le_of_ble_eq_true rfl) (s_toldBy (v := (Int32.ofInt 1)) (by omega) F g ht he hn1) (fun r h hq9 => ?_)
  obtain ⟨rfl, rfl⟩ := hq9
  refine g_aload_n (i := 0) rfl rfl ?_
  refine g_aload_n (i := 0) rfl rfl ?_
  refine g_getfield (v := .ref 2) rfl h0 (by decide) rfl ?_
  refine g_iload_n (i := 1) rfl rfl ?_
  refine g_aaload rfl a3 (by decide) (i_in (by omega) (by omega)) ?_
  rw [i_nat hs, hg]
  show sGo none 148 _ 77 [some (.ref 0), some (.int s), some (.int t), some (.int 0), some (.long ((toS (W * H) (tx el n) n 0) &&& ((sdS W (W * H) C 0) ^^^ (Int64.ofNat 18446744073709551615)))), none, none, none] (.ref pc :: [.ref 0, .long (toS (W * H) (tx el n) n 1)]) _ _
  refine g_iconst (n := 1) rfl ?_
  refine g_virt2 (Qc := fun r h' => h' = h ∧ r = some (.long (sdS W (W * H) C 1))) rfl (by decide) rfl h0 rfl (Nat.le_of_ble_eq_true rfl) (sd0 ((Int32.ofInt 1))) (fun r h hq9 => ?_)
  obtain ⟨rfl, rfl⟩ := hq9
  refine g_ldc2_w (j := 18446744073709551615) rfl ?_
  refine g_lxor rfl ?_
  refine g_land rfl ?_
  refine g_lstore (i := 6) (L1 := [some (.ref 0), some (.int s), some (.int t), some (.int 0), some (.long ((toS (W * H) (tx el n) n 0) &&& ((sdS W (W * H) C 0) ^^^ (Int64.ofNat 18446744073709551615)))), none, some (.long ((toS (W * H) (tx el n) n 1) &&& ((sdS W (W * H) C 1) ^^^ (Int64.ofNat 18446744073709551615)))), none]) rfl (Nat.le_of_ble_eq_true rfl) rfl ?_
  refine g_lload (i := 4) rfl rfl ?_
  refine g_lload (i := 6) rfl rfl ?_
  refine g_lor rfl ?_
  refine g_lconst (n := 0) rfl ?_
  show sGo none 148 _ 94 [some (.ref 0), some (.int s), some (.int t), some (.int 0), some (.long ((toS (W * H) (tx el n) n 0) &&& ((sdS W (W * H) C 0) ^^^ (Int64.ofNat 18446744073709551615)))), none, some (.long ((toS (W * H) (tx el n) n 1) &&& ((sdS W (W * H) C 1) ^^^ (Int64.ofNat 18446744073709551615)))), none] [.long (Int64.ofNat 0), .long (((toS (W * H) (tx el n) n 0) &&& ((sdS W (W * H) C 0) ^^^ (Int64.ofNat 18446744073709551615))) ||| ((toS (W * H) (tx el n) n 1) &&& ((sdS W (W * H) C 1) ^^^ (Int64.ofNat 18446744073709551615))))] _ _
  refine g_lcmp rfl ?_
  refine g_if_ne 102 rfl rfl (fun c_1 => ?_) (fun c_1 => ?_)
  · skip
    rw [lc_eq] at c_1
    refine g_iconst (n := 0) rfl ?_
    refine g_ireturn (ty := .int) rfl rfl rfl ?_
    exact ⟨rfl, Or.inr ⟨fun z => c_1 (key.mpr z), rfl⟩⟩
  · skip
    rw [lc_eq] at c_1
    refine g_iconst (n := 1) rfl ?_
    refine g_goto 103 rfl rfl ?_
    refine g_ireturn (ty := .int) rfl rfl rfl ?_
    exact ⟨rfl, Or.inl ⟨key.mp c_1, rfl⟩⟩
/-- the reference's refusals of fits, one after another -/
def e1S (hd : Nat → Int32) (s : Int) : Nat := if 0 ≤ s ∧ s < 8 then (if hd s.toNat = 2 then 0 else if hd s.toNat = 1 then 2 else 3) else 1
def e2S (hd : Nat → Int32) (t : Int) : Nat := if 0 ≤ t ∧ t < 8 then (if hd t.toNat = 1 then 0 else if hd t.toNat = 2 then 2 else 3) else 1
theorem s_fits12 {d : Nat} {h : sHp} {J hd co R : Nat → Int32} {s t : Int32} (hd1 : 5 ≤ d) (hr : h[60]? = some (mO J)) (hR : h[61]? = some (rFc R)) (a4 : h[67]? = some (.inl (0, 8, .inl hd))) (h3 : ∀ S, S < 8 → hd S = 0 ∨ hd S = 1 ∨ hd S = 2) {P : Prop} (hfit : ∀ S T : Nat, S < 8 → T < 8 → s.toInt = S → t.toInt = T → hd S = 2 → hd T = 1 → ∃ x, h[70]? = some (.inl (0, 8, .inl co)) ∧ co S = x ∧ sDo (d - 1) 243 [.ref 60, .int x, .int t] h (fun r h' => h' = h ∧ (P ∧ r = some (.int 1) ∨ ¬ P ∧ r = some (.int 0)))) : sDo d 244 [.ref 60, .int s, .int t] h (fun r h' => (emin (e1S hd s.toInt) (e2S hd t.toInt) ≠ 0 ∧ r = some (.int (-(Int32.ofNat (emin (e1S hd s.toInt) (e2S hd t.toInt)))))) ∨ (emin (e1S hd s.toInt) (e2S hd t.toInt) = 0 ∧ (P ∧ r = some (.int 1) ∨ ¬ P ∧ r = some (.int 0)))) := by
  have n3 : ∀ S, S < 8 → ((hd S = 0 ∧ (hd S).toInt = 0) ∨ (hd S = 1 ∧ (hd S).toInt = 1) ∨ (hd S = 2 ∧ (hd S).toInt = 2)) := fun S hS => by
    rcases h3 S hS with e | e | e
    · exact Or.inl ⟨e, by rw [e]; rfl⟩
    · exact Or.inr (Or.inl ⟨e, by rw [e]; rfl⟩)
    · exact Or.inr (Or.inr ⟨e, by rw [e]; rfl⟩)
  refine sDo_of1 (nL := 3) (L := [some (.ref 60), some (.int s), some (.int t)]) (by omega) rfl rfl ?_
  refine g_aload_n (i := 0) rfl rfl ?_
  refine g_iload_n (i := 1) rfl rfl ?_
  refine g_virt1 (Qc := fun r h' => h' = h ∧ (((0 ≤ s.toInt ∧ s.toInt < 8) ∧ r = some (.int 1)) ∨ (¬ (0 ≤ s.toInt ∧ s.toInt < 8) ∧ r = some (.int 0)))) rfl (by decide) rfl hr rfl (Nat.le_of_ble_eq_true rfl) (s_sh12z (by omega)) (fun r h hq9 => ?_)
  obtain ⟨rfl, ⟨c_1, rfl⟩ | ⟨c_1, rfl⟩⟩ := hq9
  · skip
    obtain ⟨S, hs⟩ : ∃ n : Nat, s.toInt = n := ⟨s.toInt.toNat, by omega⟩
    refine g_if_eq 16 rfl rfl (fun hc => absurd hc (by decide)) (fun _ => ?_)
    refine g_aload_n (i := 0) rfl rfl ?_
    refine g_iload_n (i := 2) rfl rfl ?_
    refine g_virt1 (Qc := fun r h' => h' = h ∧ (((0 ≤ t.toInt ∧ t.toInt < 8) ∧ r = some (.int 1)) ∨ (¬ (0 ≤ t.toInt ∧ t.toInt < 8) ∧ r = some (.int 0)))) rfl (by decide) rfl hr rfl (Nat.le_of_ble_eq_true rfl) (s_sh12z (by omega)) (fun r h hq9 => ?_)
    obtain ⟨rfl, ⟨c_2, rfl⟩ | ⟨c_2, rfl⟩⟩ := hq9
    · skip
      obtain ⟨T, ht⟩ : ∃ n : Nat, t.toInt = n := ⟨t.toInt.toNat, by omega⟩
      refine g_if_ne 22 rfl rfl (fun _ => ?_) (fun hc => absurd hc (by decide))
      refine g_aload_n (i := 0) rfl rfl ?_
      refine g_getfield (v := .ref 67) rfl hr (by decide) rfl ?_
      refine g_iload_n (i := 1) rfl rfl ?_
      refine g_iaload (n := 8) (f := hd) rfl a4 (i_in (by omega) (by omega)) ?_
      rw [i_nat hs]
      refine g_iconst (n := 1) rfl ?_
      have k_4 : (Int32.ofInt 1).toInt = 1 := rfl
      refine g_icmp_eq 42 rfl rfl (fun c_3 => ?_) (fun c_3 => ?_)
      · skip
        rw [i_eq, k_4] at c_3
        refine g_aload_n (i := 0) rfl rfl ?_
        refine g_bipush (n := (-2)) rfl ?_
        refine g_virt1 (Qc := fun r h' => r = some (.int (-2)) ∧ h' = h.set 61 (rFc (bump R 2))) rfl (by decide) rfl hr rfl (Nat.le_of_ble_eq_true rfl) (s_no2 (X := 2) (by omega) hr hR rfl (by decide)) (fun r h9 hq9 => ?_)
        obtain ⟨rfl, rfl⟩ := hq9
        refine g_ireturn (ty := .int) rfl rfl rfl ?_
        have em : emin (e1S hd s.toInt) (e2S hd t.toInt) = 2 := by
          unfold e1S e2S
          rw [if_pos c_1, if_pos c_2, show s.toInt.toNat = S by omega, show t.toInt.toNat = T by omega]
          rcases n3 S (by omega) with ⟨e, e'⟩ | ⟨e, e'⟩ | ⟨e, e'⟩ <;> rcases n3 T (by omega) with ⟨y, y'⟩ | ⟨y, y'⟩ | ⟨y, y'⟩ <;> first | (exfalso; omega) | (rw [e, y]; decide)
        exact Or.inl ⟨by rw [em]; decide, by rw [em]; rfl⟩
      · skip
        rw [i_eq, k_4] at c_3
        refine g_aload_n (i := 0) rfl rfl ?_
        refine g_getfield (v := .ref 67) rfl hr (by decide) rfl ?_
        refine g_iload_n (i := 2) rfl rfl ?_
        refine g_iaload (n := 8) (f := hd) rfl a4 (i_in (by omega) (by omega)) ?_
        rw [i_nat ht]
        refine g_iconst (n := 2) rfl ?_
        have k_6 : (Int32.ofInt 2).toInt = 2 := rfl
        refine g_icmp_ne 49 rfl rfl (fun c_5 => ?_) (fun c_5 => ?_)
        · skip
          rw [i_eq, k_6] at c_5
          refine g_aload_n (i := 0) rfl rfl ?_
          refine g_getfield (v := .ref 67) rfl hr (by decide) rfl ?_
          refine g_iload_n (i := 1) rfl rfl ?_
          refine g_iaload (n := 8) (f := hd) rfl a4 (i_in (by omega) (by omega)) ?_
          rw [i_nat hs]
          have k_8 : (0 : Int32).toInt = 0 := rfl
          refine g_if_eq 67 rfl rfl (fun c_7 => ?_) (fun c_7 => ?_)
          · skip
            rw [i_eq, k_8] at c_7
            refine g_aload_n (i := 0) rfl rfl ?_
            refine g_bipush (n := (-3)) rfl ?_
            refine g_virt1 (Qc := fun r h' => r = some (.int (-3)) ∧ h' = h.set 61 (rFc (bump R 3))) rfl (by decide) rfl hr rfl (Nat.le_of_ble_eq_true rfl) (s_no2 (X := 3) (by omega) hr hR rfl (by decide)) (fun r h9 hq9 => ?_)
            obtain ⟨rfl, rfl⟩ := hq9
            refine g_ireturn (ty := .int) rfl rfl rfl ?_
            have em : emin (e1S hd s.toInt) (e2S hd t.toInt) = 3 := by
              unfold e1S e2S
              rw [if_pos c_1, if_pos c_2, show s.toInt.toNat = S by omega, show t.toInt.toNat = T by omega]
              rcases n3 S (by omega) with ⟨e, e'⟩ | ⟨e, e'⟩ | ⟨e, e'⟩ <;> rcases n3 T (by omega) with ⟨y, y'⟩ | ⟨y, y'⟩ | ⟨y, y'⟩ <;> first | (exfalso; omega) | (rw [e, y]; decide)
            exact Or.inl ⟨by rw [em]; decide, by rw [em]; rfl⟩
          · skip
            rw [i_eq, k_8] at c_7
            refine g_aload_n (i := 0) rfl rfl ?_
            refine g_getfield (v := .ref 67) rfl hr (by decide) rfl ?_
            refine g_iload_n (i := 2) rfl rfl ?_
            refine g_iaload (n := 8) (f := hd) rfl a4 (i_in (by omega) (by omega)) ?_
            rw [i_nat ht]
            refine g_if_ne 74 rfl rfl (fun c_9 => ?_) (fun c_9 => ?_)
            · skip
              rw [i_eq, k_8] at c_9
              refine g_aload_n (i := 0) rfl rfl ?_
              refine g_aload_n (i := 0) rfl rfl ?_
              refine g_getfield (v := .ref 70) rfl hr (by decide) rfl ?_
              refine g_iload_n (i := 1) rfl rfl ?_
              have h2 : hd S = 2 := by
                rcases n3 S (by omega) with ⟨e, e'⟩ | ⟨e, e'⟩ | ⟨e, e'⟩
                · exfalso; omega
                · exfalso; omega
                · exact e
              have h1 : hd T = 1 := by
                rcases n3 T (by omega) with ⟨e, e'⟩ | ⟨e, e'⟩ | ⟨e, e'⟩
                · exfalso; omega
                · exact e
                · exfalso; omega
              obtain ⟨x, a7, ex, hft⟩ := hfit S T (by omega) (by omega) hs ht h2 h1
              have em : emin (e1S hd s.toInt) (e2S hd t.toInt) = 0 := by
                unfold e1S e2S
                rw [if_pos c_1, if_pos c_2, show s.toInt.toNat = S by omega, show t.toInt.toNat = T by omega, h2, h1]
                decide
              refine g_iaload (n := 8) (f := co) rfl a7 (i_in (by omega) (by omega)) ?_
              rw [i_nat hs, ex]
              refine g_iload_n (i := 2) rfl rfl ?_
              refine g_virt2 (Qc := fun r h' => h' = h ∧ (((P) ∧ r = some (.int 1)) ∨ (¬ (P) ∧ r = some (.int 0)))) rfl (by decide) rfl hr rfl (Nat.le_of_ble_eq_true rfl) (hft) (fun r h hq9 => ?_)
              obtain ⟨rfl, ⟨c_10, rfl⟩ | ⟨c_10, rfl⟩⟩ := hq9
              · skip
                refine g_if_eq 92 rfl rfl (fun hc => absurd hc (by decide)) (fun _ => ?_)
                refine g_iconst (n := 1) rfl ?_
                refine g_goto 93 rfl rfl ?_
                refine g_ireturn (ty := .int) rfl rfl rfl ?_
                exact Or.inr ⟨em, Or.inl ⟨c_10, rfl⟩⟩
              · skip
                refine g_if_eq 92 rfl rfl (fun _ => ?_) (fun hc => absurd hc (by decide))
                refine g_iconst (n := 0) rfl ?_
                refine g_ireturn (ty := .int) rfl rfl rfl ?_
                exact Or.inr ⟨em, Or.inr ⟨c_10, rfl⟩⟩
            · skip
              rw [i_eq, k_8] at c_9
              refine g_aload_n (i := 0) rfl rfl ?_
              refine g_bipush (n := (-3)) rfl ?_
              refine g_virt1 (Qc := fun r h' => r = some (.int (-3)) ∧ h' = h.set 61 (rFc (bump R 3))) rfl (by decide) rfl hr rfl (Nat.le_of_ble_eq_true rfl) (s_no2 (X := 3) (by omega) hr hR rfl (by decide)) (fun r h9 hq9 => ?_)
              obtain ⟨rfl, rfl⟩ := hq9
              refine g_ireturn (ty := .int) rfl rfl rfl ?_
              have em : emin (e1S hd s.toInt) (e2S hd t.toInt) = 3 := by
                unfold e1S e2S
                rw [if_pos c_1, if_pos c_2, show s.toInt.toNat = S by omega, show t.toInt.toNat = T by omega]
                rcases n3 S (by omega) with ⟨e, e'⟩ | ⟨e, e'⟩ | ⟨e, e'⟩ <;> rcases n3 T (by omega) with ⟨y, y'⟩ | ⟨y, y'⟩ | ⟨y, y'⟩ <;> first | (exfalso; omega) | (rw [e, y]; decide)
              exact Or.inl ⟨by rw [em]; decide, by rw [em]; rfl⟩
        · skip
          rw [i_eq, k_6] at c_5
          refine g_aload_n (i := 0) rfl rfl ?_
          refine g_bipush (n := (-2)) rfl ?_
          refine g_virt1 (Qc := fun r h' => r = some (.int (-2)) ∧ h' = h.set 61 (rFc (bump R 2))) rfl (by decide) rfl hr rfl (Nat.le_of_ble_eq_true rfl) (s_no2 (X := 2) (by omega) hr hR rfl (by decide)) (fun r h9 hq9 => ?_)
          obtain ⟨rfl, rfl⟩ := hq9
          refine g_ireturn (ty := .int) rfl rfl rfl ?_
          have em : emin (e1S hd s.toInt) (e2S hd t.toInt) = 2 := by
            unfold e1S e2S
            rw [if_pos c_1, if_pos c_2, show s.toInt.toNat = S by omega, show t.toInt.toNat = T by omega]
            rcases n3 S (by omega) with ⟨e, e'⟩ | ⟨e, e'⟩ | ⟨e, e'⟩ <;> rcases n3 T (by omega) with ⟨y, y'⟩ | ⟨y, y'⟩ | ⟨y, y'⟩ <;> first | (exfalso; omega) | (rw [e, y]; decide)
          exact Or.inl ⟨by rw [em]; decide, by rw [em]; rfl⟩
    · skip
      refine g_if_ne 22 rfl rfl (fun hc => absurd hc (by decide)) (fun _ => ?_)
      refine g_aload_n (i := 0) rfl rfl ?_
      refine g_iconst (n := (-1)) rfl ?_
      refine g_virt1 (Qc := fun r h' => r = some (.int (-1)) ∧ h' = h.set 61 (rFc (bump R 1))) rfl (by decide) rfl hr rfl (Nat.le_of_ble_eq_true rfl) (s_no2 (X := 1) (by omega) hr hR rfl (by decide)) (fun r h9 hq9 => ?_)
      obtain ⟨rfl, rfl⟩ := hq9
      refine g_ireturn (ty := .int) rfl rfl rfl ?_
      have ez : e2S hd t.toInt = 1 := if_neg c_2
      have em : emin (e1S hd s.toInt) (e2S hd t.toInt) = 1 := by unfold emin; rw [if_pos (Or.inr ez)]
      exact Or.inl ⟨by rw [em]; decide, by rw [em]; rfl⟩
  · skip
    refine g_if_eq 16 rfl rfl (fun _ => ?_) (fun hc => absurd hc (by decide))
    refine g_aload_n (i := 0) rfl rfl ?_
    refine g_iconst (n := (-1)) rfl ?_
    refine g_virt1 (Qc := fun r h' => r = some (.int (-1)) ∧ h' = h.set 61 (rFc (bump R 1))) rfl (by decide) rfl hr rfl (Nat.le_of_ble_eq_true rfl) (s_no2 (X := 1) (by omega) hr hR rfl (by decide)) (fun r h9 hq9 => ?_)
    obtain ⟨rfl, rfl⟩ := hq9
    refine g_ireturn (ty := .int) rfl rfl rfl ?_
    have ez : e1S hd s.toInt = 1 := if_neg c_1
    have em : emin (e1S hd s.toInt) (e2S hd t.toInt) = 1 := by unfold emin; rw [if_pos (Or.inl ez)]
    exact Or.inl ⟨by rw [em]; decide, by rw [em]; rfl⟩
theorem pr7_fits (s : Int32) (t : Int32) : pairR bR7 148 244 [.int s, .int t] := pr_q (c1 := cn_X11_fits_0) (c2 := cn_X12_fits_0) ch_X11_fits_0 ch_X12_fits_0 (by decide +kernel) (by decide +kernel) (by decide +kernel) (by decide +kernel) rfl rfl (fun h hH => ⟨bt0 hH, vI0 s, vI0 t, trivial⟩) (fun h hH => ⟨bt60 hH, vI0 s, vI0 t, trivial⟩) (by decide +kernel) (by decide +kernel) (fun h hH hR => by
  obtain ⟨c, m, W, H, N, ik, tf, R, hd, so, sz, co, cl, f, gg, F, g, M, gM, h0, hR43, q4, bs, hN, c11, m6⟩ := un7 hH hR
  have q4' := q4
  obtain ⟨a1, a2, a3, a4, a5, a6, a7, a8⟩ := q4'
  have h3 : ∀ S, S < 8 → hd S = 0 ∨ hd S = 1 ∨ hd S = 2 := fun S hS => hd_3 (bs S hS)
  -- what the class's noCut and noRow say
  have c1 : ∃ x : Int32, x.toInt = -((e1S hd s.toInt : Nat) : Int) ∧ sDo 9 162 [.ref 0, .int s] h (fun r h' => h' = h ∧ r = some (.int x)) := by
    unfold e1S
    by_cases hS : 0 ≤ s.toInt ∧ s.toInt < 8
    · obtain ⟨S, hs⟩ : ∃ S : Nat, s.toInt = S := ⟨s.toInt.toNat, by omega⟩
      rw [if_pos hS, show s.toInt.toNat = S by omega]
      refine ⟨_, ?_, s_noCutIn (d := 9) (by omega) h0 q4 bs hs (by omega)⟩
      unfold ncS
      rcases h3 S (by omega) with e | e | e <;> (rw [e]; decide)
    · rw [if_neg hS]
      exact ⟨-1, by decide, s_noCutOX (d := 7) hS⟩
  have c2 : ∃ x : Int32, x.toInt = -((e2S hd t.toInt : Nat) : Int) ∧ sDo 9 161 [.ref 0, .int t] h (fun r h' => h' = h ∧ r = some (.int x)) := by
    unfold e2S
    by_cases hS : 0 ≤ t.toInt ∧ t.toInt < 8
    · obtain ⟨S, hs⟩ : ∃ S : Nat, t.toInt = S := ⟨t.toInt.toNat, by omega⟩
      obtain ⟨ot, z, el, b1, b2, b3⟩ := bs S (by omega)
      rw [if_pos hS, show t.toInt.toNat = S by omega]
      refine ⟨_, ?_, s_noIn (d := 7) (el := el) hH q4 hs (by omega) b1 b3⟩
      unfold nrOf
      rcases h3 S (by omega) with e | e | e <;> (rw [e]; decide)
    · rw [if_neg hS]
      exact ⟨-1, by decide, s_noOut (d := 7) hS⟩
  obtain ⟨x, hx, n1⟩ := c1
  obtain ⟨y, hy, n2⟩ := c2
  have l1 : e1S hd s.toInt ≤ 3 := by unfold e1S; repeat' split
                                     all_goals omega
  have l2 : e2S hd t.toInt ≤ 3 := by unfold e2S; repeat' split
                                     all_goals omega
  by_cases em : emin (e1S hd s.toInt) (e2S hd t.toInt) = 0
  · have z1 : e1S hd s.toInt = 0 ∧ e2S hd t.toInt = 0 := by
      unfold emin at em
      repeat' split at em
      all_goals omega
    have hS : 0 ≤ s.toInt ∧ s.toInt < 8 := Classical.byContradiction (fun z => by have := z1.1; unfold e1S at this; rw [if_neg z] at this; omega)
    have hT : 0 ≤ t.toInt ∧ t.toInt < 8 := Classical.byContradiction (fun z => by have := z1.2; unfold e2S at this; rw [if_neg z] at this; omega)
    obtain ⟨S, hs⟩ : ∃ S : Nat, s.toInt = S := ⟨s.toInt.toNat, by omega⟩
    obtain ⟨T, ht⟩ : ∃ T : Nat, t.toInt = T := ⟨t.toInt.toNat, by omega⟩
    have h2 : hd S = 2 := by
      have := z1.1
      unfold e1S at this
      rw [if_pos hS, show s.toInt.toNat = S by omega] at this
      rcases h3 S (by omega) with e | e | e
      · rw [e] at this; exact absurd this (by decide)
      · rw [e] at this; exact absurd this (by decide)
      · exact e
    have h1 : hd T = 1 := by
      have := z1.2
      unfold e2S at this
      rw [if_pos hT, show t.toInt.toNat = T by omega] at this
      rcases h3 T (by omega) with e | e | e
      · rw [e] at this; exact absurd this (by decide)
      · exact e
      · rw [e] at this; exact absurd this (by decide)
    obtain ⟨pc, C, -, hg, a, hc, hxC⟩ := cut_at (bs S (by omega)) h2
    obtain ⟨ot, z, el, b1, b2, b3⟩ := bs T (by omega)
    rcases b3 with ⟨e, -⟩ | ⟨-, -, eo, o0, o3, ez, z0, z100, eel⟩ | ⟨e, -⟩
    · rw [h1] at e; exact absurd e (by decide)
    · obtain ⟨n, hn⟩ : ∃ n : Nat, z.toInt = n := ⟨z.toInt.toNat, by omega⟩
      have hz : z = Int32.ofNat n := Int32.toInt_inj.mp (by rw [hn, ofN_toInt (by omega)])
      have RT1 : RT cl T n (tx el n) := ⟨by omega, by omega, fun i hi => by
          unfold tx
          rw [if_pos hi, eel i (by omega)], fun i hi => if_neg (by omega)⟩
      rw [hz] at b1
      have zx : x = 0 := Int32.toInt_inj.mp (by rw [hx, z1.1]; rfl)
      have zy : y = 0 := Int32.toInt_inj.mp (by rw [hy, z1.2]; rfl)
      subst zx zy
      have k1 := s_fits11c (d := 10) (by omega) h0 F g a3 hs (by omega) hg hc a hxC a1 ht (by omega) (a2 T (by omega)) b1 b2 (by omega) n1 n2
      have k2 : ∀ h1, bH h1 → vE h h1 → sDo 10 244 [.ref 60, .int s, .int t] h1 (fun r h' => _) := fun h1 hH1 E => by
        obtain ⟨Rm, hRm⟩ := RA_of hH1 (p := 61) (Or.inr rfl)
        exact s_fits12 (d := 10) (co := co) (P := fitP W (W * H) C (tx el n) n) (s := s) (t := t) (by omega) (vE_at E M.1 (by decide)) hRm (vE_at E a4 (by decide)) h3 (fun S' T' hS' hT' es et e2 e1 => ⟨co S', vE_at E a7 (by decide), rfl, by
          have eS : S' = S := by omega
          have eT : T' = T := by omega
          subst eS eT
          exact s_isFit (d := 9) (by omega) (vE_at E M.1 (by decide)) gM hxC hc ht (by omega) (vE_at E a6 (by decide)) (vE_at E a8 (by decide)) (by rw [← ez, hz]) RT1⟩)
      by_cases hP : fitP W (W * H) C (tx el n) n
      · refine ⟨.int 1, sDo_mono k1 (fun r h' q => ⟨(q.2.resolve_right (fun z => z.1 hP)).2, by rw [q.1]; exact vE_rfl⟩), fun h1 hH1 E => sDo_mono (k2 h1 hH1 E) (fun r h' q => ?_)⟩
        exact ((q.resolve_left (fun z => z.1 em)).2.resolve_right (fun z => z.1 hP)).2
      · refine ⟨.int 0, sDo_mono k1 (fun r h' q => ⟨(q.2.resolve_left (fun z => hP z.1)).2, by rw [q.1]; exact vE_rfl⟩), fun h1 hH1 E => sDo_mono (k2 h1 hH1 E) (fun r h' q => ?_)⟩
        exact ((q.resolve_left (fun z => z.1 em)).2.resolve_left (fun z => hP z.1)).2
    · rw [h1] at e; exact absurd e (by decide)
  · refine ⟨.int (-(Int32.ofNat (emin (e1S hd s.toInt) (e2S hd t.toInt)))), sDo_mono (s_fits11n (d := 10) (by omega) h0 hR43 hx hy l1 l2 em n1 n2) (fun r h' q => ⟨q.1, by rw [q.2]; exact vE_43⟩), fun h1 hH1 E => ?_⟩
    obtain ⟨Rm, hRm⟩ := RA_of hH1 (p := 61) (Or.inr rfl)
    refine sDo_mono (s_fits12 (d := 10) (co := co) (P := True) (s := s) (t := t) (by omega) (vE_at E M.1 (by decide)) hRm (vE_at E a4 (by decide)) h3 (fun S' T' hS' hT' es et e2 e1 => ?_)) (fun r h' q => (q.resolve_right (fun z => em z.1)).2)
    exfalso
    apply em
    unfold e1S e2S
    rw [if_pos (show 0 ≤ s.toInt ∧ s.toInt < 8 by omega), if_pos (show 0 ≤ t.toInt ∧ t.toInt < 8 by omega), show s.toInt.toNat = S' by omega, show t.toInt.toNat = T' by omega, e2, e1]
    decide)
end
