/-! ===== the shelves of class and reference, side by side ===== -/
theorem sDo_and {d k : Nat} {as : List Value} {h : sHp} {Q1 Q2 : Option Value → sHp → Prop} (a : sDo d k as h Q1) (b : sDo d k as h Q2) : sDo d k as h (fun r h' => Q1 r h' ∧ Q2 r h') := by
  obtain ⟨n1, r1, h1, e1, q1⟩ := a
  obtain ⟨n2, r2, h2, e2, q2⟩ := b
  have e1' := sCall_up d n1 (n1 + n2) (by omega) _ _ _ _ e1
  have e2' := sCall_up d n2 (n1 + n2) (by omega) _ _ _ _ e2
  rw [e1'] at e2'
  cases e2'
  exact ⟨_, _, _, e1', q1, q2⟩
/-- which class a code's cut is of -/
def bKi (c : Int32) : Nat := [2, 9, 1, 5, 0, 4, 10].getD (c.toInt / 1000).toNat 2
def bSh (hd so sz co : Nat → Int32) (cl : Nat → Int64) (g : Nat → Option Nat) (h : sHp) (s : Nat) (ot z : Int32) (el : Nat → Int64) : Prop := (hd s = 0 ∧ g s = none ∧ ot = -1) ∨ (hd s = 1 ∧ g s = none ∧ ot = so s ∧ 0 ≤ ot.toInt ∧ ot.toInt ≤ 3 ∧ z = sz s ∧ 0 ≤ z.toInt ∧ z.toInt ≤ 100 ∧ ∀ i : Nat, (i : Int) < z.toInt → el i = cl (100 * s + i)) ∨ (hd s = 2 ∧ ot = -1 ∧ ∃ p, 79 ≤ p ∧ g s = some p ∧ h[p]? = some (.inr (bKi (co s), cutFs (Int32.ofNat s) (co s))) ∧ 0 ≤ (co s).toInt ∧ (co s).toInt < 7000)
def bRS (hd so sz co : Nat → Int32) (cl : Nat → Int64) (g : Nat → Option Nat) (h : sHp) (s : Nat) : Prop := ∃ (ot z : Int32) (el : Nat → Int64), h[44 + 2 * s]? = some (.inr (7, [.int ot, .int z, .ref (45 + 2 * s)])) ∧ h[45 + 2 * s]? = some (.inl (1, 100, .inr (.inl el))) ∧ bSh hd so sz co cl g h s ot z el
/-- the cells of the shelves, but the rows and cuts -/
def bR4 (h : sHp) (hd so sz co : Nat → Int32) (cl : Nat → Int64) (f g : Nat → Option Nat) : Prop := h[1]? = some (.inl (3, 8, .inr (.inr (.inr (.inr f))))) ∧ (∀ s, s < 8 → f s = some (44 + 2 * s)) ∧ h[2]? = some (.inl (4, 8, .inr (.inr (.inr (.inr g))))) ∧ h[67]? = some (.inl (0, 8, .inl hd)) ∧ h[68]? = some (.inl (0, 8, .inl so)) ∧ h[69]? = some (.inl (0, 8, .inl sz)) ∧ h[70]? = some (.inl (0, 8, .inl co)) ∧ h[71]? = some (.inl (1, 800, .inr (.inl cl)))
def bR5 (h : sHp) : Prop := ∃ (hd so sz co : Nat → Int32) (cl : Nat → Int64) (f g : Nat → Option Nat), bR4 h hd so sz co cl f g ∧ ∀ s, s < 8 → bRS hd so sz co cl g h s
/-- cells of which the relation says nothing -/
theorem bSh_set {hd so sz co : Nat → Int32} {cl : Nat → Int64} {g : Nat → Option Nat} {h : sHp} {s : Nat} {ot z : Int32} {el : Nat → Int64} {p : Nat} {c : va_E} (q : bSh hd so sz co cl g h s ot z el) (hp : p < 79) : bSh hd so sz co cl g (h.set p c) s ot z el := by
  rcases q with q | q | ⟨c1, c2, pc, c3, c4, c5, c6⟩
  · exact Or.inl q
  · exact Or.inr (Or.inl q)
  · exact Or.inr (Or.inr ⟨c1, c2, pc, c3, c4, by rw [s_set_ne (by omega)]; exact c5, c6⟩)
theorem bRS_set {hd so sz co : Nat → Int32} {cl : Nat → Int64} {g : Nat → Option Nat} {h : sHp} {s : Nat} {p : Nat} {c : va_E} (q : bRS hd so sz co cl g h s) (hp : p < 79) (h1 : p ≠ 44 + 2 * s) (h2 : p ≠ 45 + 2 * s) : bRS hd so sz co cl g (h.set p c) s := by
  obtain ⟨ot, z, el, b1, b2, b3⟩ := q
  exact ⟨ot, z, el, by rw [s_set_ne h1]; exact b1, by rw [s_set_ne h2]; exact b2, bSh_set b3 hp⟩
theorem bR4_set {hd so sz co : Nat → Int32} {cl : Nat → Int64} {f g : Nat → Option Nat} {h : sHp} {p : Nat} {c : va_E} (q : bR4 h hd so sz co cl f g) (h1 : p ≠ 1) (h2 : p ≠ 2) (h4 : p < 67 ∨ 72 ≤ p) : bR4 (h.set p c) hd so sz co cl f g := by
  obtain ⟨a1, a2, a3, a4, a5, a6, a7, a8⟩ := q
  exact ⟨by rw [s_set_ne h1]; exact a1, a2, by rw [s_set_ne h2]; exact a3, by rw [s_set_ne (by omega)]; exact a4, by rw [s_set_ne (by omega)]; exact a5, by rw [s_set_ne (by omega)]; exact a6, by rw [s_set_ne (by omega)]; exact a7, by rw [s_set_ne (by omega)]; exact a8⟩
theorem bR5_set {h : sHp} {p : Nat} {c : va_E} (q : bR5 h) (hp : p < 79) (h1 : p ≠ 1) (h2 : p ≠ 2) (h3 : p < 44 ∨ 60 ≤ p) (h4 : p < 67 ∨ 72 ≤ p) : bR5 (h.set p c) := by
  obtain ⟨hd, so, sz, co, cl, f, g, a1, a2⟩ := q
  exact ⟨hd, so, sz, co, cl, f, g, bR4_set a1 h1 h2 h4, fun s hs => bRS_set (a2 s hs) hp (by omega) (by omega)⟩
/-- what a call leaves untouched -/
def bRM : List Nat := [64, 128, 4288, 4352, 4416, 4480, 4544, 5120, 5121, 5122, 5184] ++ (bCutL.map (fun ci => (List.range 6).map (fun j => (100 + ci) * 64 + j))).flatten
theorem bFr_arr {W g : Nat} {h h' : sHp} {p K : Nat} {c : Nat × Nat × ((Nat → Int32) ⊕ (Nat → Int64) ⊕ (Nat → UInt32) ⊕ (Nat → UInt64) ⊕ (Nat → Option Nat))} (a : bFr W g h h') (hc : h[p]? = some (.inl c)) (hp : p < 79) (hk : bKp p (.inr (0, [])) = K) (hW : W.testBit (K * 64) = false) : h'[p]? = some (.inl c) := by
  obtain ⟨c', h1, h2⟩ := a.2.2 p _ hc
  obtain ⟨t, n, dd⟩ := c
  rcases c' with ⟨t', n', d'⟩ | ⟨ci', fs'⟩
  · obtain ⟨e1, e2, e3⟩ := h2
    rw [(bKp_at hp _ (.inr (0, []))).trans hk] at e3
    rw [h1, e1, e2, e3 hW]
  · exact h2.elim
theorem bFr_obj {W g : Nat} {h h' : sHp} {p K ci n : Nat} {fs : List Value} (a : bFr W g h h') (hc : h[p]? = some (.inr (ci, fs))) (hk : bKp p (.inr (ci, fs)) = K) (hn : fs.length = n) (hW : ∀ j, j < n → W.testBit (K * 64 + j) = false) : h'[p]? = some (.inr (ci, fs)) := by
  obtain ⟨c', h1, h2⟩ := a.2.2 p _ hc
  rcases c' with ⟨t', n', d'⟩ | ⟨ci', fs'⟩
  · exact h2.elim
  · obtain ⟨rfl, e2, e3, -⟩ := h2
    rw [hk] at e3
    have e : fs' = fs := by
      apply List.ext_getElem?
      intro j
      by_cases hj : j < n
      · exact e3 j (hW j hj)
      · rw [List.getElem?_eq_none_iff.mpr (by omega), List.getElem?_eq_none_iff.mpr (by omega)]
    rw [h1, e]
theorem bKi_in (c : Int32) : bKi c ∈ bCutL := by
  unfold bKi
  generalize (c.toInt / 1000).toNat = n
  match n with
  | 0 => decide
  | 1 => decide
  | 2 => decide
  | 3 => decide
  | 4 => decide
  | 5 => decide
  | 6 => decide
  | k + 7 => exact (show 2 ∈ bCutL by decide)
theorem bR5_fr {W gg : Nat} {h h' : sHp} (a : bFr W gg h h') (hW : ∀ b ∈ bRM, W.testBit b = false) (q : bR5 h) : bR5 h' := by
  obtain ⟨hd, so, sz, co, cl, f, g, ⟨a1, a2, a3, a4, a5, a6, a7, a8⟩, a9⟩ := q
  refine ⟨hd, so, sz, co, cl, f, g, ⟨bFr_arr a a1 (by decide) rfl (hW _ (by decide)), a2, bFr_arr a a3 (by decide) rfl (hW _ (by decide)), bFr_arr a a4 (by decide) rfl (hW _ (by decide)), bFr_arr a a5 (by decide) rfl (hW _ (by decide)), bFr_arr a a6 (by decide) rfl (hW _ (by decide)), bFr_arr a a7 (by decide) rfl (hW _ (by decide)), bFr_arr a a8 (by decide) rfl (hW _ (by decide))⟩, fun s hs => ?_⟩
  obtain ⟨ot, z, el, b1, b2, b3⟩ := a9 s hs
  have k80 : ∀ s, s < 8 → bKp (44 + 2 * s) (.inr (0, [])) = 80 ∧ bKp (45 + 2 * s) (.inr (0, [])) = 81 := by decide
  refine ⟨ot, z, el, bFr_obj (K := 80) (n := 3) a b1 ((bKp_at (by omega) _ _).trans (k80 s hs).1) rfl (fun j hj => hW _ ?_), bFr_arr (K := 81) a b2 (by omega) (k80 s hs).2 (hW _ (by decide)), ?_⟩
  · match j, hj with
    | 0, _ => decide
    | 1, _ => decide
    | 2, _ => decide
    | j + 3, hj => omega
  · rcases b3 with b3 | b3 | ⟨c1, c2, pc, c3, c4, c5, c6⟩
    · exact Or.inl b3
    · exact Or.inr (Or.inl b3)
    · refine Or.inr (Or.inr ⟨c1, c2, pc, c3, c4, bFr_obj (K := 100 + bKi (co s)) (n := 6) a c5 (bKp_new c3 _ _) rfl (fun j hj => hW _ ?_), c6⟩)
      exact List.mem_append_right _ (List.mem_flatten.mpr ⟨_, List.mem_map.mpr ⟨_, bKi_in (co s), rfl⟩, List.mem_map.mpr ⟨j, List.mem_range.mpr hj, rfl⟩⟩)
/-! helpers, walked exactly -/
theorem s_sh11 {d : Nat} {h : sHp} {s : Int32} {b : Int32} (hb : b = if 0 ≤ s.toInt ∧ s.toInt < 8 then 1 else 0) : sDo (d + 1) 160 [.int s] h (fun r h' => h' = h ∧ r = some (.int b)) := by
  have e0 : (0 : Int32).toInt = 0 := rfl
  have e8 : (Int8.ofInt 8).toInt32.toInt = 8 := rfl
  refine sDo_of (d := d) (nL := 1) (L := [some (.int s)]) rfl rfl ?_
  refine g_iload_n (i := 0) rfl rfl ?_
  refine g_if_lt 14 rfl rfl (fun c1 => ?_) (fun c1 => ?_)
  · skip
    rw [i_lt, e0] at c1
    refine g_iconst (n := 0) rfl ?_
    refine g_ireturn (ty := .boolean) rfl rfl (by decide) ?_
    rw [hb, if_neg (by omega)]; exact ⟨rfl, rfl⟩
  · skip
    rw [i_lt, e0] at c1
    refine g_iload_n (i := 0) rfl rfl ?_
    refine g_bipush (n := 8) rfl ?_
    refine g_icmp_ge 14 rfl rfl (fun c2 => ?_) (fun c2 => ?_)
    · skip
      rw [i_le, e8] at c2
      refine g_iconst (n := 0) rfl ?_
      refine g_ireturn (ty := .boolean) rfl rfl (by decide) ?_
      rw [hb, if_neg (by omega)]; exact ⟨rfl, rfl⟩
    · skip
      rw [i_le, e8] at c2
      refine g_iconst (n := 1) rfl ?_
      refine g_goto 15 rfl rfl ?_
      refine g_ireturn (ty := .boolean) rfl rfl (by decide) ?_
      rw [hb, if_pos (by omega)]; exact ⟨rfl, rfl⟩
theorem s_sh12 {d : Nat} {h : sHp} {s : Int32} {b : Int32} (hb : b = if 0 ≤ s.toInt ∧ s.toInt < 8 then 1 else 0) : sDo (d + 1) 171 [.ref 60, .int s] h (fun r h' => h' = h ∧ r = some (.int b)) := by
  have e0 : (0 : Int32).toInt = 0 := rfl
  have e8 : (Int8.ofInt 8).toInt32.toInt = 8 := rfl
  refine sDo_of (d := d) (nL := 2) (L := [some (.ref 60), some (.int s)]) rfl rfl ?_
  refine g_iload_n (i := 1) rfl rfl ?_
  refine g_if_lt 14 rfl rfl (fun c1 => ?_) (fun c1 => ?_)
  · skip
    rw [i_lt, e0] at c1
    refine g_iconst (n := 0) rfl ?_
    refine g_ireturn (ty := .boolean) rfl rfl (by decide) ?_
    rw [hb, if_neg (by omega)]; exact ⟨rfl, rfl⟩
  · skip
    rw [i_lt, e0] at c1
    refine g_iload_n (i := 1) rfl rfl ?_
    refine g_bipush (n := 8) rfl ?_
    refine g_icmp_ge 14 rfl rfl (fun c2 => ?_) (fun c2 => ?_)
    · skip
      rw [i_le, e8] at c2
      refine g_iconst (n := 0) rfl ?_
      refine g_ireturn (ty := .boolean) rfl rfl (by decide) ?_
      rw [hb, if_neg (by omega)]; exact ⟨rfl, rfl⟩
    · skip
      rw [i_le, e8] at c2
      refine g_iconst (n := 1) rfl ?_
      refine g_goto 15 rfl rfl ?_
      refine g_ireturn (ty := .boolean) rfl rfl (by decide) ?_
      rw [hb, if_pos (by omega)]; exact ⟨rfl, rfl⟩
theorem s_refA {d : Nat} {h : sHp} {x y : Int32} (hH : bH h) (x1 : -7 ≤ x.toInt) (x2 : x.toInt ≤ -1) : sDo (d + 1) 158 [.ref 0, .int x, .int y] h (fun r h' => r = some (.int y) ∧ ∃ R, h' = h.set 43 (.inl (0, 8, .inl R))) := by
  have e0 : (0 : Int32).toInt = 0 := rfl
  have e7 : (Int8.ofInt (-7)).toInt32.toInt = -7 := rfl
  have en : (-x).toInt = -x.toInt := by
    rw [Int32.toInt_neg]
    exact Int.bmod_eq_of_le (by omega) (by omega)
  obtain ⟨fs, hf, -, hfs⟩ := bFldK hH (p := 0) (by decide) rfl
  obtain ⟨v8, f8, r8⟩ := hfs 8 _ rfl
  cases bT_one (by decide) (by decide +kernel) r8
  obtain ⟨R, hR, -⟩ := bA60 hH (p := 43) (n := 8) (lo := -2147483648) (hi := 2147483647) (cs := []) (by decide) rfl
  refine sDo_of (d := d) (nL := 3) (L := [some (.ref 0), some (.int x), some (.int y)]) rfl rfl ?_
  refine g_iload_n (i := 1) rfl rfl ?_
  refine g_if_ge 21 rfl rfl (fun hc => absurd hc (by rw [i_le, e0]; omega)) (fun _ => ?_)
  refine g_iload_n (i := 1) rfl rfl ?_
  refine g_bipush (n := (-7)) rfl ?_
  refine g_icmp_lt 21 rfl rfl (fun hc => absurd hc (by rw [i_lt, e7]; omega)) (fun _ => ?_)
  refine g_aload_n (i := 0) rfl rfl ?_
  refine g_getfield (v := .ref 43) rfl hf (by decide) f8 ?_
  refine g_iload_n (i := 1) rfl rfl ?_
  refine g_ineg rfl ?_
  refine g_dup2 rfl rfl rfl ?_
  refine g_iaload (n := 8) (f := R) rfl hR (by exact i_in (by omega) (by omega)) ?_
  refine g_iconst (n := 1) rfl ?_
  refine g_iadd rfl ?_
  refine g_iastore rfl hR (i_in (by omega) (by omega)) rfl ?_
  refine g_iload_n (i := 2) rfl rfl ?_
  refine g_ireturn (ty := .int) rfl rfl rfl ?_
  exact ⟨rfl, _, rfl⟩
theorem s_rfus {d : Nat} {h : sHp} {x : Int32} (hH : bH h) (x1 : -7 ≤ x.toInt) (x2 : x.toInt ≤ -1) : sDo (d + 2) 157 [.ref 0, .int x] h (fun r h' => r = some (.int x) ∧ ∃ R, h' = h.set 43 (.inl (0, 8, .inl R))) := by
  obtain ⟨fs, hf, -⟩ := bFldK hH (p := 0) (by decide) rfl
  refine sDo_of (d := d + 1) (nL := 2) (L := [some (.ref 0), some (.int x)]) rfl rfl ?_
  refine g_aload_n (i := 0) rfl rfl ?_
  refine g_iload_n (i := 1) rfl rfl ?_
  refine g_iload_n (i := 1) rfl rfl ?_
  refine g_virt2 (Qc := fun r h' => r = some (.int x) ∧ ∃ R, h' = h.set 43 (.inl (0, 8, .inl R))) rfl (by decide) rfl hf rfl (Nat.le_of_ble_eq_true rfl) (s_refA hH x1 x2) (fun r h9 hq9 => ?_)
  obtain ⟨rfl, hR⟩ := hq9
  refine g_ireturn (ty := .int) rfl rfl rfl ?_
  exact ⟨rfl, hR⟩
theorem s_no {d : Nat} {h : sHp} {x : Int32} (hH : bH h) (x1 : -7 ≤ x.toInt) (x2 : x.toInt ≤ -1) : sDo (d + 1) 169 [.ref 60, .int x] h (fun r h' => r = some (.int x) ∧ ∃ R, h' = h.set 61 (.inl (0, 8, .inl R))) := by
  have en : (-x).toInt = -x.toInt := by
    rw [Int32.toInt_neg]
    exact Int.bmod_eq_of_le (by omega) (by omega)
  obtain ⟨fs, hf, -⟩ := bObj60 hH
  obtain ⟨v8, f8, r8⟩ := bF60 hH hf (j := 8) (ty := .inr (2, 61)) (by decide +kernel)
  cases bT_one (by decide) (by decide +kernel) r8
  obtain ⟨R, hR, -⟩ := bA60 hH (p := 61) (n := 8) (lo := -2147483648) (hi := 2147483647) (cs := []) (by decide) rfl
  refine sDo_of (d := d) (nL := 2) (L := [some (.ref 60), some (.int x)]) rfl rfl ?_
  refine g_aload_n (i := 0) rfl rfl ?_
  refine g_getfield (v := .ref 61) rfl hf (by decide) f8 ?_
  refine g_iload_n (i := 1) rfl rfl ?_
  refine g_ineg rfl ?_
  refine g_dup2 rfl rfl rfl ?_
  refine g_iaload (n := 8) (f := R) rfl hR (by exact i_in (by omega) (by omega)) ?_
  refine g_iconst (n := 1) rfl ?_
  refine g_iadd rfl ?_
  refine g_iastore rfl hR (i_in (by omega) (by omega)) rfl ?_
  refine g_iload_n (i := 1) rfl rfl ?_
  refine g_ireturn (ty := .int) rfl rfl rfl ?_
  exact ⟨rfl, _, rfl⟩
theorem s_isHeld {d : Nat} {h : sHp} {p : Nat} {ot z : Int32} {ep : Nat} {b : Int32} (hp : h[p]? = some (.inr (7, [.int ot, .int z, .ref ep]))) (hb : b = if ot = -1 then 0 else 1) : sDo (d + 1) 81 [.ref p] h (fun r h' => h' = h ∧ r = some (.int b)) := by
  refine sDo_of (d := d) (nL := 1) (L := [some (.ref p)]) rfl rfl ?_
  refine g_aload_n (i := 0) rfl rfl ?_
  refine g_getfield (v := .int ot) rfl hp (by decide) rfl ?_
  refine g_iconst (n := (-1)) rfl ?_
  refine g_icmp_eq 12 rfl rfl (fun c1 => ?_) (fun c1 => ?_)
  · skip
    refine g_iconst (n := 0) rfl ?_
    refine g_ireturn (ty := .boolean) rfl rfl (by decide) ?_
    rw [hb, if_pos (show ot = -1 from c1)]; exact ⟨rfl, rfl⟩
  · skip
    refine g_iconst (n := 1) rfl ?_
    refine g_goto 13 rfl rfl ?_
    refine g_ireturn (ty := .boolean) rfl rfl (by decide) ?_
    rw [hb, if_neg (show ¬ ot = -1 from c1)]; exact ⟨rfl, rfl⟩
theorem s_noRow {d : Nat} {h : sHp} {hd so sz co : Nat → Int32} {cl : Nat → Int64} {f g : Nat → Option Nat} {s : Int32} {S : Nat} {ot z : Int32} {el : Nat → Int64} (hH : bH h) (q4 : bR4 h hd so sz co cl f g) (hs : s.toInt = S) (hS : S < 8) (b1 : h[44 + 2 * S]? = some (.inr (7, [.int ot, .int z, .ref (45 + 2 * S)]))) {nr : Int32} (hn : (g S = none ∧ ¬ ot = -1 ∧ nr = 0) ∨ (g S = none ∧ ot = -1 ∧ nr = -3) ∨ (∃ p, g S = some p ∧ nr = -2)) : sDo (d + 2) 161 [.ref 0, .int s] h (fun r h' => h' = h ∧ r = some (.int nr)) := by
  obtain ⟨a1, a2, a3, a4, a5, a6, a7, a8⟩ := q4
  obtain ⟨fs, hf, -, hfs⟩ := bFldK hH (p := 0) (by decide) rfl
  obtain ⟨v0, f0, r0⟩ := hfs 0 _ rfl
  cases bT_one (by decide) (by decide +kernel) r0
  obtain ⟨v1, f1, r1⟩ := hfs 1 _ rfl
  cases bT_one (by decide) (by decide +kernel) r1
  have sn : s.toNatClampNeg = S := i_nat hs
  have fS : va_rf (f s.toNatClampNeg) = .ref (44 + 2 * S) := by rw [sn, a2 S hS]; rfl
  refine sDo_of (d := d + 1) (nL := 2) (L := [some (.ref 0), some (.int s)]) rfl rfl ?_
  refine g_iload_n (i := 1) rfl rfl ?_
  refine g_static1 (Qc := fun r h' => h' = h ∧ r = some (.int 1)) rfl (by decide) rfl (Nat.le_of_ble_eq_true rfl) (s_sh11 (by rw [if_pos (by omega)])) (fun r h9 hq9 => ?_)
  obtain ⟨rfl, rfl⟩ := hq9
  refine g_if_ne 9 rfl rfl (fun _ => ?_) (fun hc => absurd hc (by decide))
  refine g_aload_n (i := 0) rfl rfl ?_
  refine g_getfield (v := .ref 2) rfl hf (by decide) f1 ?_
  refine g_iload_n (i := 1) rfl rfl ?_
  rcases hn with ⟨hg, ho, rfl⟩ | ⟨hg, ho, rfl⟩ | ⟨p, hg, rfl⟩
  · skip
    have hgS : va_rf (g s.toNatClampNeg) = .null := by rw [sn, hg]; rfl
    refine g_aaload rfl a3 (by decide) (i_in (by omega) (by omega)) ?_
    rw [hgS]
    refine g_ifnullN 21 rfl rfl ?_
    refine g_aload_n (i := 0) rfl rfl ?_
    refine g_getfield (v := .ref 1) rfl hf (by decide) f0 ?_
    refine g_iload_n (i := 1) rfl rfl ?_
    refine g_aaload rfl a1 (by decide) (i_in (by omega) (by omega)) ?_
    rw [fS]
    refine g_virt0 (Qc := fun r h' => h' = h9 ∧ r = some (.int 1)) rfl (by decide) rfl b1 rfl (Nat.le_of_ble_eq_true rfl) (s_isHeld b1 (by rw [if_neg ho])) (fun r h8 hq9 => ?_)
    obtain ⟨rfl, rfl⟩ := hq9
    refine g_if_eq 37 rfl rfl (fun hc => absurd hc (by decide)) (fun _ => ?_)
    refine g_iconst (n := 0) rfl ?_
    refine g_goto 39 rfl rfl ?_
    refine g_ireturn (ty := .int) rfl rfl rfl ?_
    exact ⟨rfl, rfl⟩
  · skip
    have hgS : va_rf (g s.toNatClampNeg) = .null := by rw [sn, hg]; rfl
    refine g_aaload rfl a3 (by decide) (i_in (by omega) (by omega)) ?_
    rw [hgS]
    refine g_ifnullN 21 rfl rfl ?_
    refine g_aload_n (i := 0) rfl rfl ?_
    refine g_getfield (v := .ref 1) rfl hf (by decide) f0 ?_
    refine g_iload_n (i := 1) rfl rfl ?_
    refine g_aaload rfl a1 (by decide) (i_in (by omega) (by omega)) ?_
    rw [fS]
    refine g_virt0 (Qc := fun r h' => h' = h9 ∧ r = some (.int 0)) rfl (by decide) rfl b1 rfl (Nat.le_of_ble_eq_true rfl) (s_isHeld b1 (by rw [if_pos ho])) (fun r h8 hq9 => ?_)
    obtain ⟨rfl, rfl⟩ := hq9
    refine g_if_eq 37 rfl rfl (fun _ => ?_) (fun hc => absurd hc (by decide))
    refine g_bipush (n := (-3)) rfl ?_
    refine g_ireturn (ty := .int) rfl rfl rfl ?_
    exact ⟨rfl, rfl⟩
  · skip
    have hgS : va_rf (g s.toNatClampNeg) = .ref p := by rw [sn, hg]; rfl
    refine g_aaload rfl a3 (by decide) (i_in (by omega) (by omega)) ?_
    rw [hgS]
    refine g_ifnull 21 rfl rfl ?_
    refine g_bipush (n := (-2)) rfl ?_
    refine g_ireturn (ty := .int) rfl rfl rfl ?_
    exact ⟨rfl, rfl⟩
