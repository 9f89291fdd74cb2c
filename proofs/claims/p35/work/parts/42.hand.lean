/-! ===== by hand: hedgeOf, shares, comes, lists ===== -/
theorem tm_low {q w : Int} (h0 : 0 ≤ q) (hw : 2 ≤ w) (hw8 : w ≤ 8) {hh : Int} (hh8 : hh ≤ 8) (hq : q < w * hh) (hm : q.tmod w + 1 < w) : q + 1 < 64 := by
  have h1 : w * hh ≤ w * 8 := Int.mul_le_mul_of_nonneg_left hh8 (by omega)
  have h2 : q ≤ 63 := by omega
  by_cases e : q = 63
  · subst e
    have h3 : w = 8 := by omega
    subst h3
    have h4 : (63 : Int).tmod 8 = 7 := by decide
    omega
  · omega
theorem wh_le {w hh : Int} (h1 : 2 ≤ w) (h2 : w ≤ 8) (h3 : 2 ≤ hh) (h4 : hh ≤ 8) : 0 ≤ w * hh ∧ w * hh ≤ 64 := by
  have h5 : w * hh ≤ w * 8 := Int.mul_le_mul_of_nonneg_left h4 (by omega)
  have h6 : 0 ≤ w * hh := Int.mul_nonneg (by omega) (by omega)
  omega
theorem s_hedge_go {d : Nat} {h : sHp} {fs : List Value} {w hh : Int32} {f : Nat → Int32} {Q : Option Value → sHp → Prop} (hQ : ∀ n, Q (some (.int n)) h) (hf : h[60]? = some (.inr (12, fs))) (f0 : fs[0]? = some (.int w)) (f1 : fs[1]? = some (.int hh)) (f10 : fs[10]? = some (.ref 63)) (ha : h[63]? = some (.inl (0, 64, .inl f))) (w1 : 2 ≤ w.toInt) (w2 : w.toInt ≤ 8) (h1 : 2 ≤ hh.toInt) (h2 : hh.toInt ≤ 8) : ∀ (N : Nat) (q n : Int32), 0 ≤ q.toInt → q.toInt ≤ 64 → (64 - q.toInt).toNat < N → sGo none 220 d 4 [some (.ref 60), some (.int n), some (.int q)] [] h Q := by
  have whl := wh_le w1 w2 h1 h2
  have wm : (w * hh).toInt = w.toInt * hh.toInt := i_mul (by omega) (by omega)
  have w0 : ¬ w = 0 := fun z => by
    rw [z] at w1
    exact absurd w1 (by decide)
  intro N
  induction N with
  | zero => intro q n _ _ hl; omega
  | succ N ih =>
    intro q n q0 q64 hl
    have e1 : (Int32.ofInt 1).toInt = 1 := rfl
    refine g_iload_n (i := 2) rfl rfl ?_
    refine g_aload_n (i := 0) rfl rfl ?_
    refine g_getfield (v := .int w) rfl hf (by decide) f0 ?_
    refine g_aload_n (i := 0) rfl rfl ?_
    refine g_getfield (v := .int hh) rfl hf (by decide) f1 ?_
    refine g_imul rfl ?_
    refine g_icmp_ge 99 rfl rfl (fun hq => ?_) (fun hq => ?_)
    · skip
      refine g_iload_n (i := 1) rfl rfl ?_
      refine g_ireturn (ty := .int) rfl rfl rfl ?_
      exact hQ _
    · skip
      rw [i_le, wm] at hq
      have q63 : q.toInt < 64 := by omega
      refine g_iload_n (i := 2) rfl rfl ?_
      refine g_aload_n (i := 0) rfl rfl ?_
      refine g_getfield (v := .int w) rfl hf (by decide) f0 ?_
      refine g_irem rfl (by exact w0) ?_
      refine g_iconst (n := 1) rfl ?_
      refine g_iadd rfl ?_
      refine g_aload_n (i := 0) rfl rfl ?_
      refine g_getfield (v := .int w) rfl hf (by decide) f0 ?_
      refine g_icmp_ge 52 rfl rfl (fun hm => ?_) (fun hm => ?_)
      · skip
        refine g_iload_n (i := 2) rfl rfl ?_
        refine g_aload_n (i := 0) rfl rfl ?_
        refine g_getfield (v := .int w) rfl hf (by decide) f0 ?_
        refine g_iadd rfl ?_
        refine g_aload_n (i := 0) rfl rfl ?_
        refine g_getfield (v := .int w) rfl hf (by decide) f0 ?_
        refine g_aload_n (i := 0) rfl rfl ?_
        refine g_getfield (v := .int hh) rfl hf (by decide) f1 ?_
        refine g_imul rfl ?_
        refine g_icmp_ge 93 rfl rfl (fun hs => ?_) (fun hs => ?_)
        · skip
          refine g_iinc (i := 2) (L1 := [some (.ref 60), some (.int n), some (.int (q + Int32.ofInt 1))]) rfl rfl rfl ?_
          refine g_goto 4 rfl rfl ?_
          refine ih _ _ ?_ ?_ ?_
          all_goals (rw [i_add (by omega) (by omega)]; omega)
        · skip
          rw [i_le, wm] at hs
          have hqw : (q + w).toInt = q.toInt + w.toInt := i_add (by omega) (by omega)
          rw [hqw] at hs
          refine g_aload_n (i := 0) rfl rfl ?_
          refine g_getfield (v := .ref 63) rfl hf (by decide) f10 ?_
          refine g_iload_n (i := 2) rfl rfl ?_
          refine g_iaload (n := 64) (f := f) rfl ha (by exact i_in q0 (by omega)) ?_
          refine g_aload_n (i := 0) rfl rfl ?_
          refine g_getfield (v := .ref 63) rfl hf (by decide) f10 ?_
          refine g_iload_n (i := 2) rfl rfl ?_
          refine g_aload_n (i := 0) rfl rfl ?_
          refine g_getfield (v := .int w) rfl hf (by decide) f0 ?_
          refine g_iadd rfl ?_
          refine g_iaload (n := 64) (f := f) rfl ha (by exact i_in (by rw [hqw]; omega) (by rw [hqw]; omega)) ?_
          refine g_icmp_eq 93 rfl rfl (fun he => ?_) (fun he => ?_)
          · skip
            refine g_iinc (i := 2) (L1 := [some (.ref 60), some (.int n), some (.int (q + Int32.ofInt 1))]) rfl rfl rfl ?_
            refine g_goto 4 rfl rfl ?_
            refine ih _ _ ?_ ?_ ?_
            all_goals (rw [i_add (by omega) (by omega)]; omega)
          · skip
            refine g_iinc (i := 1) (L1 := [some (.ref 60), some (.int (n + Int32.ofInt 1)), some (.int q)]) rfl rfl rfl ?_
            refine g_iinc (i := 2) (L1 := [some (.ref 60), some (.int (n + Int32.ofInt 1)), some (.int (q + Int32.ofInt 1))]) rfl rfl rfl ?_
            refine g_goto 4 rfl rfl ?_
            refine ih _ _ ?_ ?_ ?_
            all_goals (rw [i_add (by omega) (by omega)]; omega)
      · skip
        rw [i_le] at hm
        have hrem := a_rem (x := q) (y := w) (by omega)
        have htm := Int.tmod_lt_of_pos q.toInt (show 0 < w.toInt by omega)
        have htn := Int.tmod_nonneg w.toInt q0
        have hadd : (q - q / w * w + Int32.ofInt 1).toInt = q.toInt.tmod w.toInt + 1 := by rw [i_add (by rw [hrem]; omega) (by rw [hrem]; omega), hrem, e1]
        rw [hadd] at hm
        have hlow := tm_low q0 w1 w2 h2 (by omega) (show q.toInt.tmod w.toInt + 1 < w.toInt by omega)
        refine g_aload_n (i := 0) rfl rfl ?_
        refine g_getfield (v := .ref 63) rfl hf (by decide) f10 ?_
        refine g_iload_n (i := 2) rfl rfl ?_
        refine g_iaload (n := 64) (f := f) rfl ha (by exact i_in q0 (by omega)) ?_
        refine g_aload_n (i := 0) rfl rfl ?_
        refine g_getfield (v := .ref 63) rfl hf (by decide) f10 ?_
        refine g_iload_n (i := 2) rfl rfl ?_
        refine g_iconst (n := 1) rfl ?_
        refine g_iadd rfl ?_
        refine g_iaload (n := 64) (f := f) rfl ha (by exact i_in (by rw [i_add (by omega) (by omega)]; omega) (by rw [i_add (by omega) (by omega)]; omega)) ?_
        refine g_icmp_eq 52 rfl rfl (fun he => ?_) (fun he => ?_)
        · skip
          refine g_iload_n (i := 2) rfl rfl ?_
          refine g_aload_n (i := 0) rfl rfl ?_
          refine g_getfield (v := .int w) rfl hf (by decide) f0 ?_
          refine g_iadd rfl ?_
          refine g_aload_n (i := 0) rfl rfl ?_
          refine g_getfield (v := .int w) rfl hf (by decide) f0 ?_
          refine g_aload_n (i := 0) rfl rfl ?_
          refine g_getfield (v := .int hh) rfl hf (by decide) f1 ?_
          refine g_imul rfl ?_
          refine g_icmp_ge 93 rfl rfl (fun hs => ?_) (fun hs => ?_)
          · skip
            refine g_iinc (i := 2) (L1 := [some (.ref 60), some (.int n), some (.int (q + Int32.ofInt 1))]) rfl rfl rfl ?_
            refine g_goto 4 rfl rfl ?_
            refine ih _ _ ?_ ?_ ?_
            all_goals (rw [i_add (by omega) (by omega)]; omega)
          · skip
            rw [i_le, wm] at hs
            have hqw : (q + w).toInt = q.toInt + w.toInt := i_add (by omega) (by omega)
            rw [hqw] at hs
            refine g_aload_n (i := 0) rfl rfl ?_
            refine g_getfield (v := .ref 63) rfl hf (by decide) f10 ?_
            refine g_iload_n (i := 2) rfl rfl ?_
            refine g_iaload (n := 64) (f := f) rfl ha (by exact i_in q0 (by omega)) ?_
            refine g_aload_n (i := 0) rfl rfl ?_
            refine g_getfield (v := .ref 63) rfl hf (by decide) f10 ?_
            refine g_iload_n (i := 2) rfl rfl ?_
            refine g_aload_n (i := 0) rfl rfl ?_
            refine g_getfield (v := .int w) rfl hf (by decide) f0 ?_
            refine g_iadd rfl ?_
            refine g_iaload (n := 64) (f := f) rfl ha (by exact i_in (by rw [hqw]; omega) (by rw [hqw]; omega)) ?_
            refine g_icmp_eq 93 rfl rfl (fun he => ?_) (fun he => ?_)
            · skip
              refine g_iinc (i := 2) (L1 := [some (.ref 60), some (.int n), some (.int (q + Int32.ofInt 1))]) rfl rfl rfl ?_
              refine g_goto 4 rfl rfl ?_
              refine ih _ _ ?_ ?_ ?_
              all_goals (rw [i_add (by omega) (by omega)]; omega)
            · skip
              refine g_iinc (i := 1) (L1 := [some (.ref 60), some (.int (n + Int32.ofInt 1)), some (.int q)]) rfl rfl rfl ?_
              refine g_iinc (i := 2) (L1 := [some (.ref 60), some (.int (n + Int32.ofInt 1)), some (.int (q + Int32.ofInt 1))]) rfl rfl rfl ?_
              refine g_goto 4 rfl rfl ?_
              refine ih _ _ ?_ ?_ ?_
              all_goals (rw [i_add (by omega) (by omega)]; omega)
        · skip
          refine g_iinc (i := 1) (L1 := [some (.ref 60), some (.int (n + Int32.ofInt 1)), some (.int q)]) rfl rfl rfl ?_
          refine g_iload_n (i := 2) rfl rfl ?_
          refine g_aload_n (i := 0) rfl rfl ?_
          refine g_getfield (v := .int w) rfl hf (by decide) f0 ?_
          refine g_iadd rfl ?_
          refine g_aload_n (i := 0) rfl rfl ?_
          refine g_getfield (v := .int w) rfl hf (by decide) f0 ?_
          refine g_aload_n (i := 0) rfl rfl ?_
          refine g_getfield (v := .int hh) rfl hf (by decide) f1 ?_
          refine g_imul rfl ?_
          refine g_icmp_ge 93 rfl rfl (fun hs => ?_) (fun hs => ?_)
          · skip
            refine g_iinc (i := 2) (L1 := [some (.ref 60), some (.int (n + Int32.ofInt 1)), some (.int (q + Int32.ofInt 1))]) rfl rfl rfl ?_
            refine g_goto 4 rfl rfl ?_
            refine ih _ _ ?_ ?_ ?_
            all_goals (rw [i_add (by omega) (by omega)]; omega)
          · skip
            rw [i_le, wm] at hs
            have hqw : (q + w).toInt = q.toInt + w.toInt := i_add (by omega) (by omega)
            rw [hqw] at hs
            refine g_aload_n (i := 0) rfl rfl ?_
            refine g_getfield (v := .ref 63) rfl hf (by decide) f10 ?_
            refine g_iload_n (i := 2) rfl rfl ?_
            refine g_iaload (n := 64) (f := f) rfl ha (by exact i_in q0 (by omega)) ?_
            refine g_aload_n (i := 0) rfl rfl ?_
            refine g_getfield (v := .ref 63) rfl hf (by decide) f10 ?_
            refine g_iload_n (i := 2) rfl rfl ?_
            refine g_aload_n (i := 0) rfl rfl ?_
            refine g_getfield (v := .int w) rfl hf (by decide) f0 ?_
            refine g_iadd rfl ?_
            refine g_iaload (n := 64) (f := f) rfl ha (by exact i_in (by rw [hqw]; omega) (by rw [hqw]; omega)) ?_
            refine g_icmp_eq 93 rfl rfl (fun he => ?_) (fun he => ?_)
            · skip
              refine g_iinc (i := 2) (L1 := [some (.ref 60), some (.int (n + Int32.ofInt 1)), some (.int (q + Int32.ofInt 1))]) rfl rfl rfl ?_
              refine g_goto 4 rfl rfl ?_
              refine ih _ _ ?_ ?_ ?_
              all_goals (rw [i_add (by omega) (by omega)]; omega)
            · skip
              refine g_iinc (i := 1) (L1 := [some (.ref 60), some (.int ((n + Int32.ofInt 1) + Int32.ofInt 1)), some (.int q)]) rfl rfl rfl ?_
              refine g_iinc (i := 2) (L1 := [some (.ref 60), some (.int ((n + Int32.ofInt 1) + Int32.ofInt 1)), some (.int (q + Int32.ofInt 1))]) rfl rfl rfl ?_
              refine g_goto 4 rfl rfl ?_
              refine ih _ _ ?_ ?_ ?_
              all_goals (rw [i_add (by omega) (by omega)]; omega)
theorem s_hedge {d : Nat} {h : sHp} (hH : bH h) : sDo (d + 1) 220 [.ref 60] h (fun r h' => h' = h ∧ ∃ n, r = some (.int n)) := by
  obtain ⟨fs, hf, -⟩ := bObj60 hH
  obtain ⟨v0, f0, w, rfl, w1, w2⟩ := bF60 hH hf (j := 0) (ty := .inl (2, 8)) (by decide +kernel)
  obtain ⟨v1, f1, hh, rfl, h1, h2⟩ := bF60 hH hf (j := 1) (ty := .inl (2, 8)) (by decide +kernel)
  obtain ⟨v10, f10, r10⟩ := bF60 hH hf (j := 10) (ty := .inr (2, 63)) (by decide +kernel)
  cases bT_one (by decide) (by decide +kernel) r10
  obtain ⟨f, ha, -⟩ := bA60 hH (p := 63) (n := 64) (lo := -2147483648) (hi := 2147483647) (cs := []) (by decide) rfl
  refine sDo_of (d := d) (nL := 3) (L := [some (.ref 60), none, none]) rfl rfl ?_
  refine g_iconst (n := 0) rfl ?_
  refine g_istore_n (i := 1) (L1 := [some (.ref 60), some (.int (Int32.ofInt 0)), none]) rfl (Nat.le_of_ble_eq_true rfl) rfl ?_
  refine g_iconst (n := 0) rfl ?_
  refine g_istore_n (i := 2) (L1 := [some (.ref 60), some (.int (Int32.ofInt 0)), some (.int (Int32.ofInt 0))]) rfl (Nat.le_of_ble_eq_true rfl) rfl ?_
  exact s_hedge_go (fun n => ⟨rfl, n, rfl⟩) hf f0 f1 f10 ha w1 w2 h1 h2 _ _ _ (by decide) (by decide) (Nat.lt_succ_self _)
theorem s_shares_go {d : Nat} {h : sHp} {fs : List Value} {m : Int32} {f : Nat → Int32} {Q : Option Value → sHp → Prop} (hQ : ∀ n : Int32, 1 ≤ n.toInt → n.toInt ≤ 45 → Q (some (.int n)) h) (hf : h[60]? = some (.inr (12, fs))) (f6 : fs[6]? = some (.int m)) (f11 : fs[11]? = some (.ref 64)) (ha : h[64]? = some (.inl (0, 5, .inl f))) (m1 : 1 ≤ m.toInt) (m5 : m.toInt ≤ 5) (ff : ∀ i, i < 5 → 0 ≤ (f i).toInt ∧ (f i).toInt ≤ 9) (fz : 1 ≤ (f 0).toInt) : ∀ (N : Nat) (q n : Int32), 0 ≤ q.toInt → q.toInt ≤ m.toInt → (5 - q.toInt).toNat < N → (if q.toInt = 0 then 0 else 1) ≤ n.toInt → n.toInt ≤ 9 * q.toInt → sGo none 228 d 4 [some (.ref 60), some (.int n), some (.int q)] [] h Q := by
  intro N
  induction N with
  | zero => intro q n _ _ hl; omega
  | succ N ih =>
    intro q n q0 qm hl n0 n1
    have e1 : (Int32.ofInt 1).toInt = 1 := rfl
    refine g_iload_n (i := 2) rfl rfl ?_
    refine g_aload_n (i := 0) rfl rfl ?_
    refine g_getfield (v := .int m) rfl hf (by decide) f6 ?_
    refine g_icmp_ge 27 rfl rfl (fun hq => ?_) (fun hq => ?_)
    · skip
      refine g_iload_n (i := 1) rfl rfl ?_
      refine g_ireturn (ty := .int) rfl rfl rfl ?_
      rw [i_le] at hq
      have hne : ¬ q.toInt = 0 := by omega
      rw [if_neg hne] at n0
      exact hQ _ n0 (by omega)
    · skip
      rw [i_le] at hq
      have qn : (q.toNatClampNeg : Int) = q.toInt := by
        show ((q.toInt.toNat : Nat) : Int) = q.toInt
        omega
      have hb := ff q.toNatClampNeg (by omega)
      have n2 : 0 ≤ n.toInt := by
        split at n0 <;> omega
      have hs : (n + f q.toNatClampNeg).toInt = n.toInt + (f q.toNatClampNeg).toInt := i_add (by omega) (by omega)
      have hz : q.toInt = 0 → 1 ≤ (f q.toNatClampNeg).toInt := fun z => by
        have e : q.toNatClampNeg = 0 := by omega
        rw [e]; exact fz
      refine g_iload_n (i := 1) rfl rfl ?_
      refine g_aload_n (i := 0) rfl rfl ?_
      refine g_getfield (v := .ref 64) rfl hf (by decide) f11 ?_
      refine g_iload_n (i := 2) rfl rfl ?_
      refine g_iaload (n := 5) (f := f) rfl ha (by exact i_in q0 (by omega)) ?_
      refine g_iadd rfl ?_
      refine g_istore_n (i := 1) (L1 := [some (.ref 60), some (.int (n + (f q.toNatClampNeg))), some (.int q)]) rfl (Nat.le_of_ble_eq_true rfl) rfl ?_
      refine g_iinc (i := 2) (L1 := [some (.ref 60), some (.int (n + (f q.toNatClampNeg))), some (.int (q + Int32.ofInt 1))]) rfl rfl rfl ?_
      refine g_goto 4 rfl rfl ?_
      have hq1 : (q + Int32.ofInt 1).toInt = q.toInt + 1 := i_add (by omega) (by omega)
      refine ih _ _ (by omega) (by omega) (by omega) ?_ (by omega)
      rw [hq1, hs, if_neg (by omega)]
      split at n0
      · rename_i z
        have := hz z
        omega
      · omega
theorem s_shares {d : Nat} {h : sHp} (hH : bH h) (ho : bOv1 h (3846, .inl (1, 5))) : sDo (d + 1) 228 [.ref 60] h (fun r h' => h' = h ∧ ∃ n : Int32, r = some (.int n) ∧ 1 ≤ n.toInt ∧ n.toInt ≤ 45) := by
  obtain ⟨fs, hf, -⟩ := bObj60 hH
  obtain ⟨-, ci, fs', v, k1, k2, m, rfl, m1, m5⟩ := ho
  rw [show (3846 : Nat) / 64 = 60 from rfl, hf] at k1
  cases k1
  have f6 : fs[6]? = some (.int m) := k2
  obtain ⟨v11, f11, r11⟩ := bF60 hH hf (j := 11) (ty := .inr (2, 64)) (by decide +kernel)
  cases bT_one (by decide) (by decide +kernel) r11
  obtain ⟨f, ha, ff, -⟩ := bA60 hH (p := 64) (n := 5) (lo := 0) (hi := 9) (cs := []) (by decide) rfl
  have fz : 1 ≤ (f 0).toInt := by
    obtain ⟨fs0, f0, g0, a1, a2, a3, a4, a5⟩ := hH.2.2
    rw [hf] at a1
    cases a1
    rw [ha] at a2
    cases a2
    refine a4 ?_
    rw [f6]
    exact m1
  refine sDo_of (d := d) (nL := 3) (L := [some (.ref 60), none, none]) rfl rfl ?_
  refine g_iconst (n := 0) rfl ?_
  refine g_istore_n (i := 1) (L1 := [some (.ref 60), some (.int (Int32.ofInt 0)), none]) rfl (Nat.le_of_ble_eq_true rfl) rfl ?_
  refine g_iconst (n := 0) rfl ?_
  refine g_istore_n (i := 2) (L1 := [some (.ref 60), some (.int (Int32.ofInt 0)), some (.int (Int32.ofInt 0))]) rfl (Nat.le_of_ble_eq_true rfl) rfl ?_
  exact s_shares_go (fun n a b => ⟨rfl, n, rfl, a, b⟩) hf f6 f11 ha m1 m5 ff fz _ _ _ (by decide) (by have : (Int32.ofInt 0).toInt = 0 := rfl; omega) (Nat.lt_succ_self _) (by decide) (by decide)
