/-! ===== by hand: writes, comes, lists ===== -/
theorem bSt_arr {h : sHp} {p n W : Nat} {lo hi : Int} {f : Nat → Int32} {i : Nat} {x : Int32} (hH : bH h) (hp : p < 79) (ho : bKp p (.inr (0, [])) = p) (hg : bGam (bKp p (.inr (0, []))) = some (.inl (0, n, .inl (lo, hi), []))) (ha : h[p]? = some (.inl (0, n, .inl f))) (hx : lo ≤ x.toInt ∧ x.toInt ≤ hi) (hW : W.testBit (p * 64) = true) (hP : bP (h.set p (.inl (0, n, .inl (upd f i x))))) : bH (h.set p (.inl (0, n, .inl (upd f i x)))) ∧ bFr W 0 h (h.set p (.inl (0, n, .inl (upd f i x)))) := by
  have hk : bKp p (.inl (0, n, .inl f)) = p := (bKp_at hp _ _).trans ho
  have hcf : bCf W (bKp p (.inl (0, n, .inl f))) (.inl (0, n, .inl f)) (.inl (0, n, .inl (upd f i x))) := by
    refine ⟨rfl, rfl, fun hj => ?_⟩
    rw [hk, hW] at hj
    cases hj
  have hg' : bGam (bKp p (.inl (0, n, .inl f))) = some (.inl (0, n, .inl (lo, hi), [])) := by
    rw [bKp_at hp (.inl (0, n, .inl f)) (.inr (0, []))]; exact hg
  have hm : bCm h (.inl (0, n, .inl (lo, hi), [])) (.inl (0, n, .inl f)) := by
    obtain ⟨ct, k1, k2⟩ := hH.2.1 p _ ha
    rw [hg'] at k1
    cases k1
    exact k2
  obtain ⟨f', e, f1, -⟩ := hm
  cases e
  have hcm : bCm h (.inl (0, n, .inl (lo, hi), [])) (.inl (0, n, .inl (upd f i x))) := by
    refine ⟨_, rfl, fun j hj => ?_, fun j z hz => by cases hz⟩
    unfold upd
    split
    · exact hx
    · exact f1 j hj
  exact ⟨bH_set hH ha hcf hg' hcm hP, bFr_set ha hcf⟩
theorem bSt_60 {h : sHp} {fs : List Value} {j W : Nat} {v : Value} {ty : bTy} (hH : bH h) (hf : h[60]? = some (.inr (12, fs))) (hj : ((bGam 60).bind (fun c => c.elim (fun _ => none) (fun q => q.2[j]?))) = some ty) (hv : bT h ty v) (hW : W.testBit (3840 + j) = true) (hU : W.testBit (3840 + j + 8192) = true ∨ bVi fs[j]? ≤ bVi (some v)) (hP : bP (h.set 60 (.inr (12, fs.set j v)))) : bH (h.set 60 (.inr (12, fs.set j v))) ∧ bFr W 0 h (h.set 60 (.inr (12, fs.set j v))) := by
  have hk : bKp 60 (.inr (12, fs)) = 60 := rfl
  obtain ⟨ct, k1, k2⟩ := hH.2.1 60 _ hf
  obtain ⟨ct', e3, e4⟩ := Option.bind_eq_some_iff.mp hj
  have k1' : bGam 60 = some ct := k1
  rw [e3] at k1'
  cases k1'
  rcases ct with q | ⟨ci, tys⟩
  · cases e4
  replace e4 : tys[j]? = some ty := e4
  obtain ⟨fs', e, el, f1⟩ := k2
  cases e
  have hl : j < fs.length := by
    rw [el]
    exact (List.getElem?_eq_some_iff.mp e4).1
  have hcf : bCf W (bKp 60 (.inr (12, fs))) (.inr (12, fs)) (.inr (12, fs.set j v)) := by
    refine ⟨rfl, by rw [List.length_set], fun i hi => ?_, fun i hi => ?_⟩
    · by_cases ej : j = i
      · subst ej
        rw [hk, show 60 * 64 + j = 3840 + j by omega, hW] at hi
        cases hi
      · rw [List.getElem?_set_ne ej]
    · by_cases ej : j = i
      · subst ej
        rw [hk, show 60 * 64 + j + 8192 = 3840 + j + 8192 by omega] at hi
        rw [List.getElem?_set_self hl]
        rcases hU with hU | hU
        · rw [hU] at hi
          cases hi
        · exact hU
      · rw [List.getElem?_set_ne ej]
        exact Int.le_refl _
  have hcm : bCm h (.inr (12, tys)) (.inr (12, fs.set j v)) := by
    refine ⟨_, rfl, by rw [List.length_set]; exact el, fun i ty' hi => ?_⟩
    by_cases ej : j = i
    · subst ej
      rw [e4] at hi
      cases hi
      exact ⟨v, by rw [List.getElem?_set_self hl], hv⟩
    · obtain ⟨y, y1, y2⟩ := f1 i ty' hi
      exact ⟨y, by rw [List.getElem?_set_ne ej]; exact y1, y2⟩
  exact ⟨bH_set hH hf hcf k1 hcm hP, bFr_set hf hcf⟩
theorem bFr_z {W g : Nat} {h h' h'' : sHp} (a : bFr W 0 h h') (b : bFr W g h' h'') : bFr W g h h'' := by
  have := bFr_trans a b
  rw [Nat.zero_add] at this
  exact this
theorem sTy_int {j : Nat} (h : sTy 12 j = .int) (x : Int32) : sFit (sTy 12 j) (.int x) = true := by rw [h]; rfl
/-- the worths of a new heir -/
theorem s_comes_go {d : Nat} {h0 : sHp} {fs : List Value} {m p : Int32} {A : va_E} {Q : Option Value → sHp → Prop} (f6 : fs[6]? = some (.int m)) (f13 : fs[13]? = some (.ref 66)) (m0 : 0 ≤ m.toInt) (m4 : m.toInt ≤ 4) (W : Nat) (hW : W.testBit (66 * 64) = true)
    (hQ : ∀ (h : sHp) (k : Int32), bH h → bFr W 0 h0 h → h[60]? = some (.inr (12, fs)) → h[64]? = some A → sGo none 191 d 50 [some (.ref 60), some (.int p), some (.int k)] [] h Q) : ∀ (N : Nat) (k : Int32) (h : sHp), bH h → bFr W 0 h0 h → h[60]? = some (.inr (12, fs)) → h[64]? = some A → 0 ≤ k.toInt → k.toInt ≤ 6 → (6 - k.toInt).toNat < N → sGo none 191 d 22 [some (.ref 60), some (.int p), some (.int k)] [] h Q := by
  intro N
  induction N with
  | zero => intro k h _ _ _ _ _ _ hl; omega
  | succ N ih =>
    intro k h hH hF hf hA k0 k6 hl
    have e6 : (Int8.ofInt 6).toInt32.toInt = 6 := rfl
    have e1 : (Int32.ofInt 1).toInt = 1 := rfl
    obtain ⟨f, ha, -⟩ := bA60 hH (p := 66) (n := 30) (lo := -2147483648) (hi := 2147483647) (cs := []) (by decide) rfl
    refine g_iload_n (i := 2) rfl rfl ?_
    refine g_bipush (n := 6) rfl ?_
    refine g_icmp_ge 50 rfl rfl (fun hq => ?_) (fun hq => ?_)
    · skip
      exact hQ h k hH hF hf hA
    · skip
      rw [i_le, e6] at hq
      have hm : ((Int8.ofInt 6).toInt32 * m).toInt = 6 * m.toInt := by rw [i_mul (by rw [e6]; omega) (by rw [e6]; omega), e6]
      have hi : ((Int8.ofInt 6).toInt32 * m + k).toInt = 6 * m.toInt + k.toInt := by rw [i_add (by rw [hm]; omega) (by rw [hm]; omega), hm]
      have hP := bP_arr (c' := (0, 30, .inl (upd f ((Int8.ofInt 6).toInt32 * m + k).toNatClampNeg (Int8.ofInt 10).toInt32))) hH.2.2 ha (by decide) (by decide)
      obtain ⟨hH1, hF1⟩ := bSt_arr (W := W) hH (p := 66) (by decide) rfl rfl ha (show (-2147483648 : Int) ≤ (Int8.ofInt 10).toInt32.toInt ∧ (Int8.ofInt 10).toInt32.toInt ≤ 2147483647 by decide) hW hP
      refine g_aload_n (i := 0) rfl rfl ?_
      refine g_getfield (v := .ref 66) rfl hf (by decide) f13 ?_
      refine g_bipush (n := 6) rfl ?_
      refine g_aload_n (i := 0) rfl rfl ?_
      refine g_getfield (v := .int m) rfl hf (by decide) f6 ?_
      refine g_imul rfl ?_
      refine g_iload_n (i := 2) rfl rfl ?_
      refine g_iadd rfl ?_
      refine g_bipush (n := 10) rfl ?_
      refine g_iastore rfl ha (i_in (by rw [hi]; omega) (by rw [hi]; omega)) rfl ?_
      refine g_iinc (i := 2) (L1 := [some (.ref 60), some (.int p), some (.int (k + Int32.ofInt 1))]) rfl rfl rfl ?_
      refine g_goto 22 rfl rfl ?_
      refine ih _ _ hH1 (bFr_z hF hF1) (by rw [s_set_ne (by decide)]; exact hf) (by rw [s_set_ne (by decide)]; exact hA) ?_ ?_ ?_
      all_goals (rw [i_add (by omega) (by omega)]; omega)
theorem s_comes {d : Nat} {h : sHp} {p : Int32} (hH : bH h) (ho : bOv1 h (3846, .inl (0, 4))) (p1 : 1 ≤ p.toInt) (p9 : p.toInt ≤ 9) (W : Nat) (W1 : W.testBit 3846 = true) (W2 : W.testBit 4096 = true) (W3 : W.testBit 4160 = true) (W4 : W.testBit 4224 = true) : sDo (d + 1) 191 [.ref 60, .int p] h (fun r h' => bH h' ∧ bFr W 0 h h' ∧ ∃ m : Int32, r = some (.int m) ∧ 0 ≤ m.toInt ∧ m.toInt ≤ 4) := by
  obtain ⟨fs, hf, -⟩ := bObj60 hH
  obtain ⟨-, ci, fs', v, k1, k2, m, rfl, m0, m4⟩ := ho
  rw [show (3846 : Nat) / 64 = 60 from rfl, hf] at k1
  cases k1
  have f6 : fs[6]? = some (.int m) := k2
  obtain ⟨v11, f11, r11⟩ := bF60 hH hf (j := 11) (ty := .inr (2, 64)) (by decide +kernel)
  cases bT_one (by decide) (by decide +kernel) r11
  obtain ⟨v12, f12, r12⟩ := bF60 hH hf (j := 12) (ty := .inr (2, 65)) (by decide +kernel)
  cases bT_one (by decide) (by decide +kernel) r12
  obtain ⟨v13, f13, r13⟩ := bF60 hH hf (j := 13) (ty := .inr (2, 66)) (by decide +kernel)
  cases bT_one (by decide) (by decide +kernel) r13
  obtain ⟨f, ha, ff, -⟩ := bA60 hH (p := 64) (n := 5) (lo := 0) (hi := 9) (cs := []) (by decide) rfl
  obtain ⟨fs0, f0, g0, a1, a2, a3, a4, a5⟩ := hH.2.2
  rw [hf] at a1
  cases a1
  rw [ha] at a2
  cases a2
  have mn : (m.toNatClampNeg : Int) = m.toInt := by
    show ((m.toInt.toNat : Nat) : Int) = m.toInt
    omega
  have hup : 1 ≤ (upd f m.toNatClampNeg p 0).toInt := by
    unfold upd
    split
    · exact p1
    · rename_i z
      refine a4 ?_
      rw [f6]
      show 1 ≤ m.toInt
      omega
  have hP1 : bP (h.set 64 (.inl (0, 5, .inl (upd f m.toNatClampNeg p)))) := ⟨fs, _, g0, by rw [s_set_ne (by decide)]; exact hf, s_set_eq ha, by rw [s_set_ne (by decide)]; exact a3, fun _ => hup, a5⟩
  obtain ⟨hH1, hF1⟩ := bSt_arr (W := W) hH (p := 64) (by decide) rfl rfl ha (show (0 : Int) ≤ p.toInt ∧ p.toInt ≤ 9 by omega) W2 hP1
  have hf1 : (h.set 64 (.inl (0, 5, .inl (upd f m.toNatClampNeg p))))[60]? = some (.inr (12, fs)) := by rw [s_set_ne (by decide)]; exact hf
  have hA1 : (h.set 64 (.inl (0, 5, .inl (upd f m.toNatClampNeg p))))[64]? = some (.inl (0, 5, .inl (upd f m.toNatClampNeg p))) := s_set_eq ha
  refine sDo_of (d := d) (nL := 3) (L := [some (.ref 60), some (.int p), none]) rfl rfl ?_
  refine g_aload_n (i := 0) rfl rfl ?_
  refine g_getfield (v := .ref 64) rfl hf (by decide) f11 ?_
  refine g_aload_n (i := 0) rfl rfl ?_
  refine g_getfield (v := .int m) rfl hf (by decide) f6 ?_
  refine g_iload_n (i := 1) rfl rfl ?_
  refine g_iastore rfl ha (i_in (by omega) (by omega)) rfl ?_
  generalize h.set 64 (.inl (0, 5, .inl (upd f m.toNatClampNeg p))) = h1 at *
  obtain ⟨fo, hao, -⟩ := bA60 hH1 (p := 65) (n := 5) (lo := -2147483648) (hi := 2147483647) (cs := []) (by decide) rfl
  have hP2 := bP_arr (c' := (0, 5, .inl (upd fo m.toNatClampNeg (Int32.ofInt 0)))) hH1.2.2 hao (by decide) (by decide)
  obtain ⟨hH2, hF2⟩ := bSt_arr (W := W) hH1 (p := 65) (by decide) rfl rfl hao (show (-2147483648 : Int) ≤ (Int32.ofInt 0).toInt ∧ (Int32.ofInt 0).toInt ≤ 2147483647 by decide) W3 hP2
  refine g_aload_n (i := 0) rfl rfl ?_
  refine g_getfield (v := .ref 65) rfl hf1 (by decide) f12 ?_
  refine g_aload_n (i := 0) rfl rfl ?_
  refine g_getfield (v := .int m) rfl hf1 (by decide) f6 ?_
  refine g_iconst (n := 0) rfl ?_
  refine g_iastore rfl hao (i_in (by omega) (by omega)) rfl ?_
  refine g_iconst (n := 0) rfl ?_
  refine g_istore_n (i := 2) (L1 := [some (.ref 60), some (.int p), some (.int (Int32.ofInt 0))]) rfl (Nat.le_of_ble_eq_true rfl) rfl ?_
  refine s_comes_go (h0 := h) (A := .inl (0, 5, .inl (upd f m.toNatClampNeg p))) f6 f13 m0 m4 W W4 ?_ _ _ _ hH2 (bFr_z hF1 hF2) (by rw [s_set_ne (by decide)]; exact hf1) (by rw [s_set_ne (by decide)]; exact hA1) (by decide) (by decide) (Nat.lt_succ_self _)
  clear hH2 hF2 hP2 hao hP1
  intro h2 k hH2 hF2 hf2 hA2
  have e1 : (Int32.ofInt 1).toInt = 1 := rfl
  have hm1 : (m + Int32.ofInt 1).toInt = m.toInt + 1 := i_add (by omega) (by omega)
  have hl : 6 < fs.length := (List.getElem?_eq_some_iff.mp f6).1
  have hP3 : bP (h2.set 60 (.inr (12, fs.set 6 (.int (m + Int32.ofInt 1))))) := by
    obtain ⟨fs0, f0, g1, b1, b2, b3, b4, b5⟩ := hH2.2.2
    rw [hf2] at b1
    cases b1
    rw [hA2] at b2
    cases b2
    exact ⟨_, _, g1, s_set_eq hf2, by rw [s_set_ne (by decide)]; exact hA2, by rw [s_set_ne (by decide)]; exact b3, fun _ => hup, by rw [List.getElem?_set_ne (by decide)]; exact b5⟩
  obtain ⟨hH3, hF3⟩ := bSt_60 (W := W) (j := 6) (v := .int (m + Int32.ofInt 1)) (ty := .inl (0, 5)) hH2 hf2 (by decide +kernel) ⟨_, rfl, by omega, by omega⟩ W1 (Or.inr (by rw [f6]; show m.toInt ≤ (m + Int32.ofInt 1).toInt; omega)) hP3
  refine g_aload_n (i := 0) rfl rfl ?_
  refine g_dup rfl rfl ?_
  refine g_getfield (v := .int m) rfl hf2 (by decide) f6 ?_
  refine g_dup_x1 rfl rfl rfl ?_
  refine g_iconst (n := 1) rfl ?_
  refine g_iadd rfl ?_
  refine g_putfield rfl hf2 (by decide) hl (sTy_int (by decide +kernel) _) rfl ?_
  refine g_ireturn (ty := .int) rfl rfl rfl ?_
  exact ⟨hH3, bFr_z hF2 hF3, m, rfl, m0, m4⟩
