/-! ===== by hand: the list of cuts ===== -/
def bLI (W : Nat) (h0 : sHp) (w hh : Int32) (u : Int) (h : sHp) : Prop := bH h ∧ bFr W 0 h0 h ∧ ∃ (fs : List Value) (c : Int32), h[60]? = some (.inr (12, fs)) ∧ fs[0]? = some (.int w) ∧ fs[1]? = some (.int hh) ∧ fs[29]? = some (.ref 76) ∧ fs[31]? = some (.int c) ∧ 0 ≤ c.toInt ∧ c.toInt ≤ u
theorem bLI_up {W : Nat} {h0 : sHp} {w hh : Int32} {u u' : Int} {h : sHp} (a : bLI W h0 w hh u h) (hu : u ≤ u') : bLI W h0 w hh u' h := by
  obtain ⟨a1, a2, fs, c, a3, a4, a5, a6, a7, a8, a9⟩ := a
  exact ⟨a1, a2, fs, c, a3, a4, a5, a6, a7, a8, Int.le_trans a9 hu⟩
theorem s_lst {W d : Nat} {h0 h : sHp} {w hh c b : Int32} {u : Int} (W1 : W.testBit 3871 = true) (W2 : W.testBit 12063 = true) (W3 : W.testBit 4864 = true) (a : bLI W h0 w hh u h) (hu : u ≤ 998) : sDo (d + 1) 231 [.ref 60, .int c, .int b] h (fun r h' => r = none ∧ bLI W h0 w hh (u + 1) h') := by
  obtain ⟨hH, hF, fs, n, hf, f0, f1, f29, f31, n0, nu⟩ := a
  refine sDo_of (d := d) (nL := 3) (L := [some (.ref 60), some (.int c), some (.int b)]) rfl rfl ?_
  refine g_iload_n (i := 2) rfl rfl ?_
  refine g_if_eq 21 rfl rfl (fun hb => ?_) (fun hb => ?_)
  · skip
    refine g_return rfl rfl ?_
    exact ⟨rfl, hH, hF, fs, n, hf, f0, f1, f29, f31, n0, by omega⟩
  · skip
    have e1 : (Int32.ofInt 1).toInt = 1 := rfl
    have hn1 : (n + Int32.ofInt 1).toInt = n.toInt + 1 := i_add (by omega) (by omega)
    have hl : 31 < fs.length := (List.getElem?_eq_some_iff.mp f31).1
    have hP1 := bP_obj (x := .int (n + Int32.ofInt 1)) (j := 31) (K := 60) hH.2.2 hf rfl (by decide)
    obtain ⟨hH1, hF1⟩ := bSt_60 (W := W) (j := 31) (v := .int (n + Int32.ofInt 1)) (ty := .inl (0, 999)) hH hf (by decide +kernel) ⟨_, rfl, by omega, by omega⟩ W1 (Or.inl W2) hP1
    have hf1 : (h.set 60 (.inr (12, fs.set 31 (.int (n + Int32.ofInt 1)))))[60]? = some (.inr (12, fs.set 31 (.int (n + Int32.ofInt 1)))) := s_set_eq hf
    refine g_aload_n (i := 0) rfl rfl ?_
    refine g_getfield (v := .ref 76) rfl hf (by decide) f29 ?_
    refine g_aload_n (i := 0) rfl rfl ?_
    refine g_dup rfl rfl ?_
    refine g_getfield (v := .int n) rfl hf (by decide) f31 ?_
    refine g_dup_x1 rfl rfl rfl ?_
    refine g_iconst (n := 1) rfl ?_
    refine g_iadd rfl ?_
    refine g_putfield rfl hf (by decide) hl (sTy_int (by decide +kernel) _) rfl ?_
    generalize h.set 60 (.inr (12, fs.set 31 (.int (n + Int32.ofInt 1)))) = h1 at *
    obtain ⟨fo, hao, -⟩ := bA60 hH1 (p := 76) (n := 1000) (lo := -2147483648) (hi := 2147483647) (cs := []) (by decide) rfl
    have hP2 := bP_arr (c' := (0, 1000, .inl (upd fo n.toNatClampNeg c))) hH1.2.2 hao (by decide) (by decide)
    obtain ⟨hH2, hF2⟩ := bSt_arr (W := W) hH1 (p := 76) (by decide) rfl rfl hao (by have := aFull_ok c; exact this) W3 hP2
    refine g_iload_n (i := 1) rfl rfl ?_
    refine g_iastore rfl hao (i_in (by omega) (by omega)) rfl ?_
    refine g_return rfl rfl ?_
    refine ⟨rfl, hH2, bFr_z hF (bFr_z hF1 hF2), _, n + Int32.ofInt 1, by rw [s_set_ne (by decide)]; exact hf1, by rw [List.getElem?_set_ne (by decide)]; exact f0, by rw [List.getElem?_set_ne (by decide)]; exact f1, by rw [List.getElem?_set_ne (by decide)]; exact f29, List.getElem?_set_self hl, by omega, by omega⟩
section LS
variable {W d : Nat} {h0 : sHp} {w hh kk : Int32} {Q : Option Value → sHp → Prop}
theorem ls7  (W1 : W.testBit 3871 = true) (W2 : W.testBit 12063 = true) (W3 : W.testBit 4864 = true) (w1 : 2 ≤ w.toInt) (w8 : w.toInt ≤ 8) (h1 : 2 ≤ hh.toInt) (h8 : hh.toInt ≤ 8) (hQ : ∀ (a : Int32) (h : sHp), 1 ≤ a.toInt → a.toInt ≤ 8 → bLI W h0 w hh (a.toInt - 1) h → sGo none 232 (d + 1) 44 [some (.ref 60), some (.int kk), some (.int a), none, none] [] h Q) : ∀ (N : Nat) (a : Int32) (h : sHp), 1 ≤ a.toInt → a.toInt ≤ 8 → (20 - a.toInt).toNat < N → bLI W h0 w hh (a.toInt - 1) h → sGo none 232 (d + 1) 7 [some (.ref 60), some (.int kk), some (.int a), none, none] [] h Q := by
  intro N
  induction N with
  | zero => intro a h _ _ hl; omega
  | succ N ih =>
    intro a h v1 v2 hl hL
    have e1 : (Int32.ofInt 1).toInt = 1 := rfl
    have hLx := hL
    obtain ⟨hH, hF, fs, c, hf, f0, f1, f29, f31, n0, nu⟩ := hLx
    refine g_iload_n (i := 2) rfl rfl ?_
    refine g_aload_n (i := 0) rfl rfl ?_
    refine g_getfield (v := .int w) rfl hf (by decide) f0 ?_
    refine g_icmp_ge 44 rfl rfl (fun hq => ?_) (fun hq => ?_)
    · skip
      rw [i_le] at hq
      exact hQ a h v1 (by omega) hL
    · skip
      rw [i_le] at hq
      refine g_aload_n (i := 0) rfl rfl ?_
      refine g_sipush (n := 1000) rfl ?_
      refine g_bipush (n := 100) rfl ?_
      refine g_iload_n (i := 2) rfl rfl ?_
      refine g_imul rfl ?_
      refine g_iadd rfl ?_
      refine g_iload_n (i := 1) rfl rfl ?_
      refine g_iconst (n := 2) rfl ?_
      refine g_iand rfl ?_
      refine g_if_eq 34 rfl rfl (fun hk27 => ?_) (fun hk27 => ?_)
      · skip
        refine g_iconst (n := 0) rfl ?_
        refine g_virt2 (Qc := fun r h' => r = none ∧ bLI W h0 w hh ((a.toInt - 1) + 1) h') rfl (by decide) rfl hf rfl (Nat.le_of_ble_eq_true rfl) (s_lst W1 W2 W3 hL (by omega)) (fun r h9 hq9 => ?_)
        obtain ⟨rfl, hL9⟩ := hq9
        refine g_iinc (i := 2) (L1 := [some (.ref 60), some (.int kk), some (.int (a + Int32.ofInt 1)), none, none]) rfl rfl rfl ?_
        refine g_goto 7 rfl rfl ?_
        refine ih _ _ (by rw [i_add (by omega) (by omega)]; omega) (by rw [i_add (by omega) (by omega)]; omega) (by rw [i_add (by omega) (by omega)]; omega) (bLI_up hL9 (by rw [i_add (by omega) (by omega)]; omega))
      · skip
        refine g_iconst (n := 1) rfl ?_
        refine g_goto 35 rfl rfl ?_
        refine g_virt2 (Qc := fun r h' => r = none ∧ bLI W h0 w hh ((a.toInt - 1) + 1) h') rfl (by decide) rfl hf rfl (Nat.le_of_ble_eq_true rfl) (s_lst W1 W2 W3 hL (by omega)) (fun r h9 hq9 => ?_)
        obtain ⟨rfl, hL9⟩ := hq9
        refine g_iinc (i := 2) (L1 := [some (.ref 60), some (.int kk), some (.int (a + Int32.ofInt 1)), none, none]) rfl rfl rfl ?_
        refine g_goto 7 rfl rfl ?_
        refine ih _ _ (by rw [i_add (by omega) (by omega)]; omega) (by rw [i_add (by omega) (by omega)]; omega) (by rw [i_add (by omega) (by omega)]; omega) (bLI_up hL9 (by rw [i_add (by omega) (by omega)]; omega))
theorem ls67 {a : Int32} {b : Int32} (W1 : W.testBit 3871 = true) (W2 : W.testBit 12063 = true) (W3 : W.testBit 4864 = true) (w1 : 2 ≤ w.toInt) (w8 : w.toInt ≤ 8) (h1 : 2 ≤ hh.toInt) (h8 : hh.toInt ≤ 8) (a0 : 0 ≤ a.toInt) (a8 : a.toInt ≤ 8) (b0 : 1 ≤ b.toInt) (b7 : b.toInt ≤ 7) (hQ : ∀ (c4 : Int32) (h : sHp), 0 ≤ c4.toInt → c4.toInt ≤ 9 → bLI W h0 w hh ((7 + 63 * a.toInt + 9 * (b.toInt - 1) + c4.toInt)) h → sGo none 232 (d + 1) 113 [some (.ref 60), some (.int kk), some (.int a), some (.int b), some (.int c4)] [] h Q) : ∀ (N : Nat) (c4 : Int32) (h : sHp), 0 ≤ c4.toInt → c4.toInt ≤ 9 → (20 - c4.toInt).toNat < N → bLI W h0 w hh ((7 + 63 * a.toInt + 9 * (b.toInt - 1) + c4.toInt)) h → sGo none 232 (d + 1) 67 [some (.ref 60), some (.int kk), some (.int a), some (.int b), some (.int c4)] [] h Q := by
  intro N
  induction N with
  | zero => intro c4 h _ _ hl; omega
  | succ N ih =>
    intro c4 h v1 v2 hl hL
    have e1 : (Int32.ofInt 1).toInt = 1 := rfl
    have hLx := hL
    obtain ⟨hH, hF, fs, c, hf, f0, f1, f29, f31, n0, nu⟩ := hLx
    refine g_iload (i := 4) rfl rfl ?_
    refine g_aload_n (i := 0) rfl rfl ?_
    refine g_getfield (v := .int w) rfl hf (by decide) f0 ?_
    refine g_icmp_gt 113 rfl rfl (fun hq => ?_) (fun hq => ?_)
    · skip
      rw [i_lt] at hq
      exact hQ c4 h v1 (by omega) hL
    · skip
      rw [i_lt] at hq
      refine g_aload_n (i := 0) rfl rfl ?_
      refine g_sipush (n := 2000) rfl ?_
      refine g_bipush (n := 100) rfl ?_
      refine g_iload_n (i := 2) rfl rfl ?_
      refine g_imul rfl ?_
      refine g_iadd rfl ?_
      refine g_bipush (n := 10) rfl ?_
      refine g_iload_n (i := 3) rfl rfl ?_
      refine g_imul rfl ?_
      refine g_iadd rfl ?_
      refine g_iload (i := 4) rfl rfl ?_
      refine g_iadd rfl ?_
      refine g_iload_n (i := 1) rfl rfl ?_
      refine g_iconst (n := 4) rfl ?_
      refine g_iand rfl ?_
      refine g_if_eq 103 rfl rfl (fun hk96 => ?_) (fun hk96 => ?_)
      · skip
        refine g_iconst (n := 0) rfl ?_
        refine g_virt2 (Qc := fun r h' => r = none ∧ bLI W h0 w hh ((7 + 63 * a.toInt + 9 * (b.toInt - 1) + c4.toInt) + 1) h') rfl (by decide) rfl hf rfl (Nat.le_of_ble_eq_true rfl) (s_lst W1 W2 W3 hL (by omega)) (fun r h9 hq9 => ?_)
        obtain ⟨rfl, hL9⟩ := hq9
        refine g_iinc (i := 4) (L1 := [some (.ref 60), some (.int kk), some (.int a), some (.int b), some (.int (c4 + Int32.ofInt 1))]) rfl rfl rfl ?_
        refine g_goto 67 rfl rfl ?_
        refine ih _ _ (by rw [i_add (by omega) (by omega)]; omega) (by rw [i_add (by omega) (by omega)]; omega) (by rw [i_add (by omega) (by omega)]; omega) (bLI_up hL9 (by rw [i_add (by omega) (by omega)]; omega))
      · skip
        refine g_iconst (n := 1) rfl ?_
        refine g_goto 104 rfl rfl ?_
        refine g_virt2 (Qc := fun r h' => r = none ∧ bLI W h0 w hh ((7 + 63 * a.toInt + 9 * (b.toInt - 1) + c4.toInt) + 1) h') rfl (by decide) rfl hf rfl (Nat.le_of_ble_eq_true rfl) (s_lst W1 W2 W3 hL (by omega)) (fun r h9 hq9 => ?_)
        obtain ⟨rfl, hL9⟩ := hq9
        refine g_iinc (i := 4) (L1 := [some (.ref 60), some (.int kk), some (.int a), some (.int b), some (.int (c4 + Int32.ofInt 1))]) rfl rfl rfl ?_
        refine g_goto 67 rfl rfl ?_
        refine ih _ _ (by rw [i_add (by omega) (by omega)]; omega) (by rw [i_add (by omega) (by omega)]; omega) (by rw [i_add (by omega) (by omega)]; omega) (bLI_up hL9 (by rw [i_add (by omega) (by omega)]; omega))
theorem ls56 {a : Int32} (W1 : W.testBit 3871 = true) (W2 : W.testBit 12063 = true) (W3 : W.testBit 4864 = true) (w1 : 2 ≤ w.toInt) (w8 : w.toInt ≤ 8) (h1 : 2 ≤ hh.toInt) (h8 : hh.toInt ≤ 8) (a0 : 0 ≤ a.toInt) (a8 : a.toInt ≤ 8) (hQ : ∀ (b : Int32) (o4 : Option Value) (h : sHp), 1 ≤ b.toInt → b.toInt ≤ 8 → bLI W h0 w hh (7 + 63 * a.toInt + 9 * (b.toInt - 1)) h → sGo none 232 (d + 1) 119 [some (.ref 60), some (.int kk), some (.int a), some (.int b), o4] [] h Q) : ∀ (N : Nat) (b : Int32) (o4 : Option Value) (h : sHp), 1 ≤ b.toInt → b.toInt ≤ 8 → (20 - b.toInt).toNat < N → bLI W h0 w hh (7 + 63 * a.toInt + 9 * (b.toInt - 1)) h → sGo none 232 (d + 1) 56 [some (.ref 60), some (.int kk), some (.int a), some (.int b), o4] [] h Q := by
  intro N
  induction N with
  | zero => intro b o4 h _ _ hl; omega
  | succ N ih =>
    intro b o4 h v1 v2 hl hL
    have e1 : (Int32.ofInt 1).toInt = 1 := rfl
    have hLx := hL
    obtain ⟨hH, hF, fs, c, hf, f0, f1, f29, f31, n0, nu⟩ := hLx
    refine g_iload_n (i := 3) rfl rfl ?_
    refine g_aload_n (i := 0) rfl rfl ?_
    refine g_getfield (v := .int hh) rfl hf (by decide) f1 ?_
    refine g_icmp_ge 119 rfl rfl (fun hq => ?_) (fun hq => ?_)
    · skip
      rw [i_le] at hq
      exact hQ b o4 h v1 (by omega) hL
    · skip
      rw [i_le] at hq
      refine g_iconst (n := 0) rfl ?_
      refine g_istore (i := 4) (L1 := [some (.ref 60), some (.int kk), some (.int a), some (.int b), some (.int (Int32.ofInt 0))]) rfl (Nat.le_of_ble_eq_true rfl) rfl ?_
      refine ls67 W1 W2 W3 w1 w8 h1 h8 a0 a8 v1 (by omega) ?_ _ _ _ (by decide) (by decide) (Nat.lt_succ_self _) (bLI_up hL (by have : (Int32.ofInt 0).toInt = 0 := rfl; omega))
      clear hf hH hF hL
      intro c4 h9 v3 v4 hL9
      refine g_iinc (i := 3) (L1 := [some (.ref 60), some (.int kk), some (.int a), some (.int (b + Int32.ofInt 1)), some (.int c4)]) rfl rfl rfl ?_
      refine g_goto 56 rfl rfl ?_
      refine ih _ _ _ (by rw [i_add (by omega) (by omega)]; omega) (by rw [i_add (by omega) (by omega)]; omega) (by rw [i_add (by omega) (by omega)]; omega) (bLI_up hL9 (by rw [i_add (by omega) (by omega)]; omega))
theorem ls46 (W1 : W.testBit 3871 = true) (W2 : W.testBit 12063 = true) (W3 : W.testBit 4864 = true) (w1 : 2 ≤ w.toInt) (w8 : w.toInt ≤ 8) (h1 : 2 ≤ hh.toInt) (h8 : hh.toInt ≤ 8) (hQ : ∀ (a : Int32) (o3 o4 : Option Value) (h : sHp), 0 ≤ a.toInt → a.toInt ≤ 9 → bLI W h0 w hh (7 + 63 * a.toInt) h → sGo none 232 (d + 1) 125 [some (.ref 60), some (.int kk), some (.int a), o3, o4] [] h Q) : ∀ (N : Nat) (a : Int32) (o3 o4 : Option Value) (h : sHp), 0 ≤ a.toInt → a.toInt ≤ 9 → (20 - a.toInt).toNat < N → bLI W h0 w hh (7 + 63 * a.toInt) h → sGo none 232 (d + 1) 46 [some (.ref 60), some (.int kk), some (.int a), o3, o4] [] h Q := by
  intro N
  induction N with
  | zero => intro a o3 o4 h _ _ hl; omega
  | succ N ih =>
    intro a o3 o4 h v1 v2 hl hL
    have e1 : (Int32.ofInt 1).toInt = 1 := rfl
    have hLx := hL
    obtain ⟨hH, hF, fs, c, hf, f0, f1, f29, f31, n0, nu⟩ := hLx
    refine g_iload_n (i := 2) rfl rfl ?_
    refine g_aload_n (i := 0) rfl rfl ?_
    refine g_getfield (v := .int w) rfl hf (by decide) f0 ?_
    refine g_icmp_gt 125 rfl rfl (fun hq => ?_) (fun hq => ?_)
    · skip
      exact hQ a o3 o4 h v1 v2 hL
    · skip
      rw [i_lt] at hq
      refine g_iconst (n := 1) rfl ?_
      refine g_istore_n (i := 3) (L1 := [some (.ref 60), some (.int kk), some (.int a), some (.int (Int32.ofInt 1)), o4]) rfl (Nat.le_of_ble_eq_true rfl) rfl ?_
      refine ls56 W1 W2 W3 w1 w8 h1 h8 v1 (by omega) ?_ _ _ _ _ (by decide) (by decide) (Nat.lt_succ_self _) (bLI_up hL (by omega))
      clear hf hH hF hL
      intro b o4 h9 v3 v4 hL9
      refine g_iinc (i := 2) (L1 := [some (.ref 60), some (.int kk), some (.int (a + Int32.ofInt 1)), some (.int b), o4]) rfl rfl rfl ?_
      refine g_goto 46 rfl rfl ?_
      refine ih _ _ _ _ (by rw [i_add (by omega) (by omega)]; omega) (by rw [i_add (by omega) (by omega)]; omega) (by rw [i_add (by omega) (by omega)]; omega) (bLI_up hL9 (by rw [i_add (by omega) (by omega)]; omega))
theorem ls127 {o3 o4 : Option Value} (W1 : W.testBit 3871 = true) (W2 : W.testBit 12063 = true) (W3 : W.testBit 4864 = true) (w1 : 2 ≤ w.toInt) (w8 : w.toInt ≤ 8) (h1 : 2 ≤ hh.toInt) (h8 : hh.toInt ≤ 8) (hQ : ∀ (a : Int32) (h : sHp), 1 ≤ a.toInt → a.toInt ≤ 8 → bLI W h0 w hh (574 + a.toInt) h → sGo none 232 (d + 1) 165 [some (.ref 60), some (.int kk), some (.int a), o3, o4] [] h Q) : ∀ (N : Nat) (a : Int32) (h : sHp), 1 ≤ a.toInt → a.toInt ≤ 8 → (20 - a.toInt).toNat < N → bLI W h0 w hh (574 + a.toInt) h → sGo none 232 (d + 1) 127 [some (.ref 60), some (.int kk), some (.int a), o3, o4] [] h Q := by
  intro N
  induction N with
  | zero => intro a h _ _ hl; omega
  | succ N ih =>
    intro a h v1 v2 hl hL
    have e1 : (Int32.ofInt 1).toInt = 1 := rfl
    have hLx := hL
    obtain ⟨hH, hF, fs, c, hf, f0, f1, f29, f31, n0, nu⟩ := hLx
    refine g_iload_n (i := 2) rfl rfl ?_
    refine g_aload_n (i := 0) rfl rfl ?_
    refine g_getfield (v := .int hh) rfl hf (by decide) f1 ?_
    refine g_icmp_ge 165 rfl rfl (fun hq => ?_) (fun hq => ?_)
    · skip
      rw [i_le] at hq
      exact hQ a h v1 v2 hL
    · skip
      rw [i_le] at hq
      refine g_aload_n (i := 0) rfl rfl ?_
      refine g_sipush (n := 4000) rfl ?_
      refine g_bipush (n := 100) rfl ?_
      refine g_iload_n (i := 2) rfl rfl ?_
      refine g_imul rfl ?_
      refine g_iadd rfl ?_
      refine g_iload_n (i := 1) rfl rfl ?_
      refine g_bipush (n := 16) rfl ?_
      refine g_iand rfl ?_
      refine g_if_eq 155 rfl rfl (fun hk148 => ?_) (fun hk148 => ?_)
      · skip
        refine g_iconst (n := 0) rfl ?_
        refine g_virt2 (Qc := fun r h' => r = none ∧ bLI W h0 w hh ((574 + a.toInt) + 1) h') rfl (by decide) rfl hf rfl (Nat.le_of_ble_eq_true rfl) (s_lst W1 W2 W3 hL (by omega)) (fun r h9 hq9 => ?_)
        obtain ⟨rfl, hL9⟩ := hq9
        refine g_iinc (i := 2) (L1 := [some (.ref 60), some (.int kk), some (.int (a + Int32.ofInt 1)), o3, o4]) rfl rfl rfl ?_
        refine g_goto 127 rfl rfl ?_
        refine ih _ _ (by rw [i_add (by omega) (by omega)]; omega) (by rw [i_add (by omega) (by omega)]; omega) (by rw [i_add (by omega) (by omega)]; omega) (bLI_up hL9 (by rw [i_add (by omega) (by omega)]; omega))
      · skip
        refine g_iconst (n := 1) rfl ?_
        refine g_goto 156 rfl rfl ?_
        refine g_virt2 (Qc := fun r h' => r = none ∧ bLI W h0 w hh ((574 + a.toInt) + 1) h') rfl (by decide) rfl hf rfl (Nat.le_of_ble_eq_true rfl) (s_lst W1 W2 W3 hL (by omega)) (fun r h9 hq9 => ?_)
        obtain ⟨rfl, hL9⟩ := hq9
        refine g_iinc (i := 2) (L1 := [some (.ref 60), some (.int kk), some (.int (a + Int32.ofInt 1)), o3, o4]) rfl rfl rfl ?_
        refine g_goto 127 rfl rfl ?_
        refine ih _ _ (by rw [i_add (by omega) (by omega)]; omega) (by rw [i_add (by omega) (by omega)]; omega) (by rw [i_add (by omega) (by omega)]; omega) (bLI_up hL9 (by rw [i_add (by omega) (by omega)]; omega))
theorem ls177 {a : Int32} {o4 : Option Value} (W1 : W.testBit 3871 = true) (W2 : W.testBit 12063 = true) (W3 : W.testBit 4864 = true) (w1 : 2 ≤ w.toInt) (w8 : w.toInt ≤ 8) (h1 : 2 ≤ hh.toInt) (h8 : hh.toInt ≤ 8) (a0 : 1 ≤ a.toInt) (a8 : a.toInt ≤ 8) (hQ : ∀ (b : Int32) (h : sHp), 1 ≤ b.toInt → b.toInt ≤ 9 → bLI W h0 w hh (582 + 8 * (a.toInt - 1) + (b.toInt - 1)) h → sGo none 232 (d + 1) 236 [some (.ref 60), some (.int kk), some (.int a), some (.int b), o4] [] h Q) : ∀ (N : Nat) (b : Int32) (h : sHp), 1 ≤ b.toInt → b.toInt ≤ 9 → (20 - b.toInt).toNat < N → bLI W h0 w hh (582 + 8 * (a.toInt - 1) + (b.toInt - 1)) h → sGo none 232 (d + 1) 177 [some (.ref 60), some (.int kk), some (.int a), some (.int b), o4] [] h Q := by
  intro N
  induction N with
  | zero => intro b h _ _ hl; omega
  | succ N ih =>
    intro b h v1 v2 hl hL
    have e1 : (Int32.ofInt 1).toInt = 1 := rfl
    have hLx := hL
    obtain ⟨hH, hF, fs, c, hf, f0, f1, f29, f31, n0, nu⟩ := hLx
    refine g_iload_n (i := 3) rfl rfl ?_
    refine g_aload_n (i := 0) rfl rfl ?_
    refine g_getfield (v := .int hh) rfl hf (by decide) f1 ?_
    refine g_icmp_gt 236 rfl rfl (fun hq => ?_) (fun hq => ?_)
    · skip
      rw [i_lt] at hq
      exact hQ b h v1 v2 hL
    · skip
      rw [i_lt] at hq
      refine g_aload_n (i := 0) rfl rfl ?_
      refine g_sipush (n := 5000) rfl ?_
      refine g_bipush (n := 100) rfl ?_
      refine g_iload_n (i := 2) rfl rfl ?_
      refine g_imul rfl ?_
      refine g_iadd rfl ?_
      refine g_bipush (n := 10) rfl ?_
      refine g_iload_n (i := 3) rfl rfl ?_
      refine g_imul rfl ?_
      refine g_iadd rfl ?_
      refine g_iload_n (i := 1) rfl rfl ?_
      refine g_bipush (n := 32) rfl ?_
      refine g_iand rfl ?_
      refine g_if_eq 226 rfl rfl (fun hk203 => ?_) (fun hk203 => ?_)
      · skip
        refine g_iconst (n := 0) rfl ?_
        refine g_virt2 (Qc := fun r h' => r = none ∧ bLI W h0 w hh ((582 + 8 * (a.toInt - 1) + (b.toInt - 1)) + 1) h') rfl (by decide) rfl hf rfl (Nat.le_of_ble_eq_true rfl) (s_lst W1 W2 W3 hL (by omega)) (fun r h9 hq9 => ?_)
        obtain ⟨rfl, hL9⟩ := hq9
        refine g_iinc (i := 3) (L1 := [some (.ref 60), some (.int kk), some (.int a), some (.int (b + Int32.ofInt 1)), o4]) rfl rfl rfl ?_
        refine g_goto 177 rfl rfl ?_
        refine ih _ _ (by rw [i_add (by omega) (by omega)]; omega) (by rw [i_add (by omega) (by omega)]; omega) (by rw [i_add (by omega) (by omega)]; omega) (bLI_up hL9 (by rw [i_add (by omega) (by omega)]; omega))
      · skip
        refine g_iload_n (i := 2) rfl rfl ?_
        refine g_aload_n (i := 0) rfl rfl ?_
        refine g_getfield (v := .int w) rfl hf (by decide) f0 ?_
        refine g_icmp_lt 222 rfl rfl (fun hk211 => ?_) (fun hk211 => ?_)
        · skip
          refine g_iconst (n := 1) rfl ?_
          refine g_goto 227 rfl rfl ?_
          refine g_virt2 (Qc := fun r h' => r = none ∧ bLI W h0 w hh ((582 + 8 * (a.toInt - 1) + (b.toInt - 1)) + 1) h') rfl (by decide) rfl hf rfl (Nat.le_of_ble_eq_true rfl) (s_lst W1 W2 W3 hL (by omega)) (fun r h9 hq9 => ?_)
          obtain ⟨rfl, hL9⟩ := hq9
          refine g_iinc (i := 3) (L1 := [some (.ref 60), some (.int kk), some (.int a), some (.int (b + Int32.ofInt 1)), o4]) rfl rfl rfl ?_
          refine g_goto 177 rfl rfl ?_
          refine ih _ _ (by rw [i_add (by omega) (by omega)]; omega) (by rw [i_add (by omega) (by omega)]; omega) (by rw [i_add (by omega) (by omega)]; omega) (bLI_up hL9 (by rw [i_add (by omega) (by omega)]; omega))
        · skip
          refine g_iload_n (i := 3) rfl rfl ?_
          refine g_aload_n (i := 0) rfl rfl ?_
          refine g_getfield (v := .int hh) rfl hf (by decide) f1 ?_
          refine g_icmp_ge 226 rfl rfl (fun hk219 => ?_) (fun hk219 => ?_)
          · skip
            refine g_iconst (n := 0) rfl ?_
            refine g_virt2 (Qc := fun r h' => r = none ∧ bLI W h0 w hh ((582 + 8 * (a.toInt - 1) + (b.toInt - 1)) + 1) h') rfl (by decide) rfl hf rfl (Nat.le_of_ble_eq_true rfl) (s_lst W1 W2 W3 hL (by omega)) (fun r h9 hq9 => ?_)
            obtain ⟨rfl, hL9⟩ := hq9
            refine g_iinc (i := 3) (L1 := [some (.ref 60), some (.int kk), some (.int a), some (.int (b + Int32.ofInt 1)), o4]) rfl rfl rfl ?_
            refine g_goto 177 rfl rfl ?_
            refine ih _ _ (by rw [i_add (by omega) (by omega)]; omega) (by rw [i_add (by omega) (by omega)]; omega) (by rw [i_add (by omega) (by omega)]; omega) (bLI_up hL9 (by rw [i_add (by omega) (by omega)]; omega))
          · skip
            refine g_iconst (n := 1) rfl ?_
            refine g_goto 227 rfl rfl ?_
            refine g_virt2 (Qc := fun r h' => r = none ∧ bLI W h0 w hh ((582 + 8 * (a.toInt - 1) + (b.toInt - 1)) + 1) h') rfl (by decide) rfl hf rfl (Nat.le_of_ble_eq_true rfl) (s_lst W1 W2 W3 hL (by omega)) (fun r h9 hq9 => ?_)
            obtain ⟨rfl, hL9⟩ := hq9
            refine g_iinc (i := 3) (L1 := [some (.ref 60), some (.int kk), some (.int a), some (.int (b + Int32.ofInt 1)), o4]) rfl rfl rfl ?_
            refine g_goto 177 rfl rfl ?_
            refine ih _ _ (by rw [i_add (by omega) (by omega)]; omega) (by rw [i_add (by omega) (by omega)]; omega) (by rw [i_add (by omega) (by omega)]; omega) (bLI_up hL9 (by rw [i_add (by omega) (by omega)]; omega))
theorem ls167 {o4 : Option Value} (W1 : W.testBit 3871 = true) (W2 : W.testBit 12063 = true) (W3 : W.testBit 4864 = true) (w1 : 2 ≤ w.toInt) (w8 : w.toInt ≤ 8) (h1 : 2 ≤ hh.toInt) (h8 : hh.toInt ≤ 8) (hQ : ∀ (h : sHp), bLI W h0 w hh 999 h → Q none h) : ∀ (N : Nat) (a : Int32) (o3 : Option Value) (h : sHp), 1 ≤ a.toInt → a.toInt ≤ 9 → (20 - a.toInt).toNat < N → bLI W h0 w hh (582 + 8 * (a.toInt - 1)) h → sGo none 232 (d + 1) 167 [some (.ref 60), some (.int kk), some (.int a), o3, o4] [] h Q := by
  intro N
  induction N with
  | zero => intro a o3 h _ _ hl; omega
  | succ N ih =>
    intro a o3 h v1 v2 hl hL
    have e1 : (Int32.ofInt 1).toInt = 1 := rfl
    have hLx := hL
    obtain ⟨hH, hF, fs, c, hf, f0, f1, f29, f31, n0, nu⟩ := hLx
    refine g_iload_n (i := 2) rfl rfl ?_
    refine g_aload_n (i := 0) rfl rfl ?_
    refine g_getfield (v := .int w) rfl hf (by decide) f0 ?_
    refine g_icmp_gt 242 rfl rfl (fun hq => ?_) (fun hq => ?_)
    · skip
      refine g_return rfl rfl ?_
      exact hQ h (bLI_up hL (by omega))
    · skip
      rw [i_lt] at hq
      refine g_iconst (n := 1) rfl ?_
      refine g_istore_n (i := 3) (L1 := [some (.ref 60), some (.int kk), some (.int a), some (.int (Int32.ofInt 1)), o4]) rfl (Nat.le_of_ble_eq_true rfl) rfl ?_
      refine ls177 W1 W2 W3 w1 w8 h1 h8 v1 (by omega) ?_ _ _ _ (by decide) (by decide) (Nat.lt_succ_self _) (bLI_up hL (by have : (Int32.ofInt 1).toInt = 1 := rfl; omega))
      clear hf hH hF hL
      intro b h9 v3 v4 hL9
      refine g_iinc (i := 2) (L1 := [some (.ref 60), some (.int kk), some (.int (a + Int32.ofInt 1)), some (.int b), o4]) rfl rfl rfl ?_
      refine g_goto 167 rfl rfl ?_
      refine ih _ _ _ (by rw [i_add (by omega) (by omega)]; omega) (by rw [i_add (by omega) (by omega)]; omega) (by rw [i_add (by omega) (by omega)]; omega) (bLI_up hL9 (by rw [i_add (by omega) (by omega)]; omega))
end LS
theorem s_lists {d : Nat} {h : sHp} (hH : bH h) (kk : Int32) (W : Nat) (W1 : W.testBit 3871 = true) (W2 : W.testBit 12063 = true) (W3 : W.testBit 4864 = true) : sDo (d + 2) 232 [.ref 60, .int kk] h (fun r h' => r = none ∧ bH h' ∧ bFr W 0 h h') := by
  obtain ⟨fs, hf, -⟩ := bObj60 hH
  obtain ⟨v0, f0, w, rfl, w1, w8⟩ := bF60 hH hf (j := 0) (ty := .inl (2, 8)) (by decide +kernel)
  obtain ⟨v1, f1, hh, rfl, h1, h8⟩ := bF60 hH hf (j := 1) (ty := .inl (2, 8)) (by decide +kernel)
  obtain ⟨v29, f29, r29⟩ := bF60 hH hf (j := 29) (ty := .inr (2, 76)) (by decide +kernel)
  cases bT_one (by decide) (by decide +kernel) r29
  obtain ⟨v31, f31, c, rfl, c0, c9⟩ := bF60 hH hf (j := 31) (ty := .inl (0, 999)) (by decide +kernel)
  have hl : 31 < fs.length := (List.getElem?_eq_some_iff.mp f31).1
  have hP1 := bP_obj (x := .int (Int32.ofInt 0)) (j := 31) (K := 60) hH.2.2 hf rfl (by decide)
  obtain ⟨hH1, hF1⟩ := bSt_60 (W := W) (j := 31) (v := .int (Int32.ofInt 0)) (ty := .inl (0, 999)) hH hf (by decide +kernel) ⟨_, rfl, by decide, by decide⟩ W1 (Or.inl W2) hP1
  have hL1 : bLI W h w hh 0 (h.set 60 (.inr (12, fs.set 31 (.int (Int32.ofInt 0))))) := ⟨hH1, hF1, _, Int32.ofInt 0, s_set_eq hf, by rw [List.getElem?_set_ne (by decide)]; exact f0, by rw [List.getElem?_set_ne (by decide)]; exact f1, by rw [List.getElem?_set_ne (by decide)]; exact f29, List.getElem?_set_self hl, by decide, by decide⟩
  refine sDo_of (d := d + 1) (nL := 5) (L := [some (.ref 60), some (.int kk), none, none, none]) rfl rfl ?_
  refine g_aload_n (i := 0) rfl rfl ?_
  refine g_iconst (n := 0) rfl ?_
  refine g_putfield rfl hf (by decide) hl (sTy_int (by decide +kernel) _) rfl ?_
  generalize h.set 60 (.inr (12, fs.set 31 (.int (Int32.ofInt 0)))) = hx at *
  refine g_iconst (n := 1) rfl ?_
  refine g_istore_n (i := 2) (L1 := [some (.ref 60), some (.int kk), some (.int (Int32.ofInt 1)), none, none]) rfl (Nat.le_of_ble_eq_true rfl) rfl ?_
  refine ls7 W1 W2 W3 w1 w8 h1 h8 ?_ _ _ _ (by decide) (by have : (Int32.ofInt 1).toInt = 1 := rfl; omega) (Nat.lt_succ_self _) (bLI_up hL1 (by decide))
  clear hH1 hF1 hP1 hL1
  intro a hx v1 v2 hL
  refine g_iconst (n := 0) rfl ?_
  refine g_istore_n (i := 2) (L1 := [some (.ref 60), some (.int kk), some (.int (Int32.ofInt 0)), none, none]) rfl (Nat.le_of_ble_eq_true rfl) rfl ?_
  refine ls46 W1 W2 W3 w1 w8 h1 h8 ?_ _ _ _ _ _ (by decide) (by decide) (Nat.lt_succ_self _) (bLI_up hL (by have : (Int32.ofInt 0).toInt = 0 := rfl; omega))
  clear hL v1 v2 a hx
  intro a o3 o4 hx v1 v2 hL
  refine g_iconst (n := 1) rfl ?_
  refine g_istore_n (i := 2) (L1 := [some (.ref 60), some (.int kk), some (.int (Int32.ofInt 1)), o3, o4]) rfl (Nat.le_of_ble_eq_true rfl) rfl ?_
  refine ls127 W1 W2 W3 w1 w8 h1 h8 ?_ _ _ _ (by decide) (by decide) (Nat.lt_succ_self _) (bLI_up hL (by have : (Int32.ofInt 1).toInt = 1 := rfl; omega))
  clear hL v1 v2 a hx
  intro a hx v1 v2 hL
  refine g_iconst (n := 1) rfl ?_
  refine g_istore_n (i := 2) (L1 := [some (.ref 60), some (.int kk), some (.int (Int32.ofInt 1)), o3, o4]) rfl (Nat.le_of_ble_eq_true rfl) rfl ?_
  exact ls167 W1 W2 W3 w1 w8 h1 h8 (fun h' a => ⟨rfl, a.1, a.2.1⟩) _ _ _ _ (by decide) (by decide) (Nat.lt_succ_self _) (bLI_up hL (by have : (Int32.ofInt 1).toInt = 1 := rfl; omega))
