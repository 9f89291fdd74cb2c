section
/-! ===== the shelves of class and reference, side by side ===== -/
theorem sDo_and {d k : Nat} {as : List Value} {h : sHp} {Q1 Q2 : Option Value → sHp → Prop} (a : sDo d k as h Q1) (b : sDo d k as h Q2) : sDo d k as h (fun r h' => Q1 r h' ∧ Q2 r h') := by
  obtain ⟨n1, r1, h1, e1, q1⟩ := a
  obtain ⟨n2, r2, h2, e2, q2⟩ := b
  have e1' := sCall_up d n1 (n1 + n2) (by omega) _ _ _ _ e1
  have e2' := sCall_up d n2 (n1 + n2) (by omega) _ _ _ _ e2
  rw [e1'] at e2'
  cases e2'
  exact ⟨_, _, _, e1', q1, q2⟩
/-- which class a code's cut is of -/
def bKi (c : Int32) : Nat := [2, 9, 1, 5, 0, 4, 10].getD (c.toInt / 1000).toNat 2
def bSh (hd so sz co : Nat → Int32) (cl : Nat → Int64) (g : Nat → Option Nat) (h : sHp) (s : Nat) (ot z : Int32) (el : Nat → Int64) : Prop := (hd s = 0 ∧ g s = none ∧ ot = -1) ∨ (hd s = 1 ∧ g s = none ∧ ot = so s ∧ 0 ≤ ot.toInt ∧ ot.toInt ≤ 3 ∧ z = sz s ∧ 0 ≤ z.toInt ∧ z.toInt ≤ 100 ∧ ∀ i : Nat, (i : Int) < z.toInt → el i = cl (100 * s + i)) ∨ (hd s = 2 ∧ ot = -1 ∧ ∃ p, 79 ≤ p ∧ g s = some p ∧ h[p]? = some (.inr (bKi (co s), cutFs (Int32.ofNat s) (co s))) ∧ 0 ≤ (co s).toInt ∧ (co s).toInt < 7000)
def bRS (hd so sz co : Nat → Int32) (cl : Nat → Int64) (g : Nat → Option Nat) (h : sHp) (s : Nat) : Prop := ∃ (ot z : Int32) (el : Nat → Int64), h[44 + 2 * s]? = some (.inr (7, [.int ot, .int z, .ref (45 + 2 * s)])) ∧ h[45 + 2 * s]? = some (.inl (1, 100, .inr (.inl el))) ∧ bSh hd so sz co cl g h s ot z el
/-- the cells of the shelves, but the rows and cuts -/
def bR4 (h : sHp) (hd so sz co : Nat → Int32) (cl : Nat → Int64) (f g : Nat → Option Nat) : Prop := h[1]? = some (.inl (3, 8, .inr (.inr (.inr (.inr f))))) ∧ (∀ s, s < 8 → f s = some (44 + 2 * s)) ∧ h[2]? = some (.inl (4, 8, .inr (.inr (.inr (.inr g))))) ∧ h[67]? = some (.inl (0, 8, .inl hd)) ∧ h[68]? = some (.inl (0, 8, .inl so)) ∧ h[69]? = some (.inl (0, 8, .inl sz)) ∧ h[70]? = some (.inl (0, 8, .inl co)) ∧ h[71]? = some (.inl (1, 800, .inr (.inl cl)))
def bR5 (h : sHp) : Prop := ∃ (hd so sz co : Nat → Int32) (cl : Nat → Int64) (f g : Nat → Option Nat), bR4 h hd so sz co cl f g ∧ ∀ s, s < 8 → bRS hd so sz co cl g h s
/-- cells of which the relation says nothing -/
theorem bSh_set {hd so sz co : Nat → Int32} {cl : Nat → Int64} {g : Nat → Option Nat} {h : sHp} {s : Nat} {ot z : Int32} {el : Nat → Int64} {p : Nat} {c : va_E} (q : bSh hd so sz co cl g h s ot z el) (hp : p < 79) : bSh hd so sz co cl g (h.set p c) s ot z el := by
  rcases q with q | q | ⟨c1, c2, pc, c3, c4, c5, c6⟩
  · exact Or.inl q
  · exact Or.inr (Or.inl q)
  · exact Or.inr (Or.inr ⟨c1, c2, pc, c3, c4, by rw [s_set_ne (by omega)]; exact c5, c6⟩)
theorem bRS_set {hd so sz co : Nat → Int32} {cl : Nat → Int64} {g : Nat → Option Nat} {h : sHp} {s : Nat} {p : Nat} {c : va_E} (q : bRS hd so sz co cl g h s) (hp : p < 79) (h1 : p ≠ 44 + 2 * s) (h2 : p ≠ 45 + 2 * s) : bRS hd so sz co cl g (h.set p c) s := by
  obtain ⟨ot, z, el, b1, b2, b3⟩ := q
  exact ⟨ot, z, el, by rw [s_set_ne h1]; exact b1, by rw [s_set_ne h2]; exact b2, bSh_set b3 hp⟩
theorem bR4_set {hd so sz co : Nat → Int32} {cl : Nat → Int64} {f g : Nat → Option Nat} {h : sHp} {p : Nat} {c : va_E} (q : bR4 h hd so sz co cl f g) (h1 : p ≠ 1) (h2 : p ≠ 2) (h4 : p < 67 ∨ 72 ≤ p) : bR4 (h.set p c) hd so sz co cl f g := by
  obtain ⟨a1, a2, a3, a4, a5, a6, a7, a8⟩ := q
  exact ⟨by rw [s_set_ne h1]; exact a1, a2, by rw [s_set_ne h2]; exact a3, by rw [s_set_ne (by omega)]; exact a4, by rw [s_set_ne (by omega)]; exact a5, by rw [s_set_ne (by omega)]; exact a6, by rw [s_set_ne (by omega)]; exact a7, by rw [s_set_ne (by omega)]; exact a8⟩
theorem bR5_set {h : sHp} {p : Nat} {c : va_E} (q : bR5 h) (hp : p < 79) (h1 : p ≠ 1) (h2 : p ≠ 2) (h3 : p < 44 ∨ 60 ≤ p) (h4 : p < 67 ∨ 72 ≤ p) : bR5 (h.set p c) := by
  obtain ⟨hd, so, sz, co, cl, f, g, a1, a2⟩ := q
  exact ⟨hd, so, sz, co, cl, f, g, bR4_set a1 h1 h2 h4, fun s hs => bRS_set (a2 s hs) hp (by omega) (by omega)⟩
/-- what a call leaves untouched -/
def bRM : List Nat := [64, 128, 4288, 4352, 4416, 4480, 4544, 5120, 5121, 5122, 5184] ++ (bCutL.map (fun ci => (List.range 6).map (fun j => (100 + ci) * 64 + j))).flatten
theorem bFr_arr {W g : Nat} {h h' : sHp} {p K : Nat} {c : Nat × Nat × ((Nat → Int32) ⊕ (Nat → Int64) ⊕ (Nat → UInt32) ⊕ (Nat → UInt64) ⊕ (Nat → Option Nat))} (a : bFr W g h h') (hc : h[p]? = some (.inl c)) (hp : p < 79) (hk : bKp p (.inr (0, [])) = K) (hW : W.testBit (K * 64) = false) : h'[p]? = some (.inl c) := by
  obtain ⟨c', h1, h2⟩ := a.2.2 p _ hc
  obtain ⟨t, n, dd⟩ := c
  rcases c' with ⟨t', n', d'⟩ | ⟨ci', fs'⟩
  · obtain ⟨e1, e2, e3⟩ := h2
    rw [(bKp_at hp _ (.inr (0, []))).trans hk] at e3
    rw [h1, e1, e2, e3 hW]
  · exact h2.elim
theorem bFr_obj {W g : Nat} {h h' : sHp} {p K ci n : Nat} {fs : List Value} (a : bFr W g h h') (hc : h[p]? = some (.inr (ci, fs))) (hk : bKp p (.inr (ci, fs)) = K) (hn : fs.length = n) (hW : ∀ j, j < n → W.testBit (K * 64 + j) = false) : h'[p]? = some (.inr (ci, fs)) := by
  obtain ⟨c', h1, h2⟩ := a.2.2 p _ hc
  rcases c' with ⟨t', n', d'⟩ | ⟨ci', fs'⟩
  · exact h2.elim
  · obtain ⟨rfl, e2, e3, -⟩ := h2
    rw [hk] at e3
    have e : fs' = fs := by
      apply List.ext_getElem?
      intro j
      by_cases hj : j < n
      · exact e3 j (hW j hj)
      · rw [List.getElem?_eq_none_iff.mpr (by omega), List.getElem?_eq_none_iff.mpr (by omega)]
    rw [h1, e]
theorem bKi_in (c : Int32) : bKi c ∈ bCutL := by
  unfold bKi
  generalize (c.toInt / 1000).toNat = n
  match n with
  | 0 => decide
  | 1 => decide
  | 2 => decide
  | 3 => decide
  | 4 => decide
  | 5 => decide
  | 6 => decide
  | k + 7 => exact (show 2 ∈ bCutL by decide)
theorem bR5_fr {W gg : Nat} {h h' : sHp} (a : bFr W gg h h') (hW : ∀ b ∈ bRM, W.testBit b = false) (q : bR5 h) : bR5 h' := by
  obtain ⟨hd, so, sz, co, cl, f, g, ⟨a1, a2, a3, a4, a5, a6, a7, a8⟩, a9⟩ := q
  refine ⟨hd, so, sz, co, cl, f, g, ⟨bFr_arr a a1 (by decide) rfl (hW _ (by decide)), a2, bFr_arr a a3 (by decide) rfl (hW _ (by decide)), bFr_arr a a4 (by decide) rfl (hW _ (by decide)), bFr_arr a a5 (by decide) rfl (hW _ (by decide)), bFr_arr a a6 (by decide) rfl (hW _ (by decide)), bFr_arr a a7 (by decide) rfl (hW _ (by decide)), bFr_arr a a8 (by decide) rfl (hW _ (by decide))⟩, fun s hs => ?_⟩
  obtain ⟨ot, z, el, b1, b2, b3⟩ := a9 s hs
  have k80 : ∀ s, s < 8 → bKp (44 + 2 * s) (.inr (0, [])) = 80 ∧ bKp (45 + 2 * s) (.inr (0, [])) = 81 := by decide
  refine ⟨ot, z, el, bFr_obj (K := 80) (n := 3) a b1 ((bKp_at (by omega) _ _).trans (k80 s hs).1) rfl (fun j hj => hW _ ?_), bFr_arr (K := 81) a b2 (by omega) (k80 s hs).2 (hW _ (by decide)), ?_⟩
  · match j, hj with
    | 0, _ => decide
    | 1, _ => decide
    | 2, _ => decide
    | j + 3, hj => omega
  · rcases b3 with b3 | b3 | ⟨c1, c2, pc, c3, c4, c5, c6⟩
    · exact Or.inl b3
    · exact Or.inr (Or.inl b3)
    · refine Or.inr (Or.inr ⟨c1, c2, pc, c3, c4, bFr_obj (K := 100 + bKi (co s)) (n := 6) a c5 (bKp_new c3 _ _) rfl (fun j hj => hW _ ?_), c6⟩)
      exact List.mem_append_right _ (List.mem_flatten.mpr ⟨_, List.mem_map.mpr ⟨_, bKi_in (co s), rfl⟩, List.mem_map.mpr ⟨j, List.mem_range.mpr hj, rfl⟩⟩)
/-! helpers, walked exactly -/
theorem s_sh11 {d : Nat} {h : sHp} {s : Int32} {b : Int32} (hb : b = if 0 ≤ s.toInt ∧ s.toInt < 8 then 1 else 0) : sDo (d + 1) 160 [.int s] h (fun r h' => h' = h ∧ r = some (.int b)) := by
  have e0 : (0 : Int32).toInt = 0 := rfl
  have e8 : (Int8.ofInt 8).toInt32.toInt = 8 := rfl
  refine sDo_of (d := d) (nL := 1) (L := [some (.int s)]) rfl rfl ?_
  refine g_iload_n (i := 0) rfl rfl ?_
  refine g_if_lt 14 rfl rfl (fun c1 => ?_) (fun c1 => ?_)
  · skip
    rw [i_lt, e0] at c1
    refine g_iconst (n := 0) rfl ?_
    refine g_ireturn (ty := .boolean) rfl rfl (by decide) ?_
    rw [hb, if_neg (by omega)]; exact ⟨rfl, rfl⟩
  · skip
    rw [i_lt, e0] at c1
    refine g_iload_n (i := 0) rfl rfl ?_
    refine g_bipush (n := 8) rfl ?_
    refine g_icmp_ge 14 rfl rfl (fun c2 => ?_) (fun c2 => ?_)
    · skip
      rw [i_le, e8] at c2
      refine g_iconst (n := 0) rfl ?_
      refine g_ireturn (ty := .boolean) rfl rfl (by decide) ?_
      rw [hb, if_neg (by omega)]; exact ⟨rfl, rfl⟩
    · skip
      rw [i_le, e8] at c2
      refine g_iconst (n := 1) rfl ?_
      refine g_goto 15 rfl rfl ?_
      refine g_ireturn (ty := .boolean) rfl rfl (by decide) ?_
      rw [hb, if_pos (by omega)]; exact ⟨rfl, rfl⟩
theorem s_sh12 {d : Nat} {h : sHp} {s : Int32} {b : Int32} (hb : b = if 0 ≤ s.toInt ∧ s.toInt < 8 then 1 else 0) : sDo (d + 1) 171 [.ref 60, .int s] h (fun r h' => h' = h ∧ r = some (.int b)) := by
  have e0 : (0 : Int32).toInt = 0 := rfl
  have e8 : (Int8.ofInt 8).toInt32.toInt = 8 := rfl
  refine sDo_of (d := d) (nL := 2) (L := [some (.ref 60), some (.int s)]) rfl rfl ?_
  refine g_iload_n (i := 1) rfl rfl ?_
  refine g_if_lt 14 rfl rfl (fun c1 => ?_) (fun c1 => ?_)
  · skip
    rw [i_lt, e0] at c1
    refine g_iconst (n := 0) rfl ?_
    refine g_ireturn (ty := .boolean) rfl rfl (by decide) ?_
    rw [hb, if_neg (by omega)]; exact ⟨rfl, rfl⟩
  · skip
    rw [i_lt, e0] at c1
    refine g_iload_n (i := 1) rfl rfl ?_
    refine g_bipush (n := 8) rfl ?_
    refine g_icmp_ge 14 rfl rfl (fun c2 => ?_) (fun c2 => ?_)
    · skip
      rw [i_le, e8] at c2
      refine g_iconst (n := 0) rfl ?_
      refine g_ireturn (ty := .boolean) rfl rfl (by decide) ?_
      rw [hb, if_neg (by omega)]; exact ⟨rfl, rfl⟩
    · skip
      rw [i_le, e8] at c2
      refine g_iconst (n := 1) rfl ?_
      refine g_goto 15 rfl rfl ?_
      refine g_ireturn (ty := .boolean) rfl rfl (by decide) ?_
      rw [hb, if_pos (by omega)]; exact ⟨rfl, rfl⟩
theorem s_refA {d : Nat} {h : sHp} {x y : Int32} (hH : bH h) (x1 : -7 ≤ x.toInt) (x2 : x.toInt ≤ -1) : sDo (d + 1) 158 [.ref 0, .int x, .int y] h (fun r h' => r = some (.int y) ∧ ∃ R, h' = h.set 43 (.inl (0, 8, .inl R))) := by
  have e0 : (0 : Int32).toInt = 0 := rfl
  have e7 : (Int8.ofInt (-7)).toInt32.toInt = -7 := rfl
  have en : (-x).toInt = -x.toInt := by
    rw [Int32.toInt_neg]
    exact Int.bmod_eq_of_le (by omega) (by omega)
  obtain ⟨fs, hf, -, hfs⟩ := bFldK hH (p := 0) (by decide) rfl
  obtain ⟨v8, f8, r8⟩ := hfs 8 _ rfl
  cases bT_one (by decide) (by decide +kernel) r8
  obtain ⟨R, hR, -⟩ := bA60 hH (p := 43) (n := 8) (lo := -2147483648) (hi := 2147483647) (cs := []) (by decide) rfl
  refine sDo_of (d := d) (nL := 3) (L := [some (.ref 0), some (.int x), some (.int y)]) rfl rfl ?_
  refine g_iload_n (i := 1) rfl rfl ?_
  refine g_if_ge 21 rfl rfl (fun hc => absurd hc (by rw [i_le, e0]; omega)) (fun _ => ?_)
  refine g_iload_n (i := 1) rfl rfl ?_
  refine g_bipush (n := (-7)) rfl ?_
  refine g_icmp_lt 21 rfl rfl (fun hc => absurd hc (by rw [i_lt, e7]; omega)) (fun _ => ?_)
  refine g_aload_n (i := 0) rfl rfl ?_
  refine g_getfield (v := .ref 43) rfl hf (by decide) f8 ?_
  refine g_iload_n (i := 1) rfl rfl ?_
  refine g_ineg rfl ?_
  refine g_dup2 rfl rfl rfl ?_
  refine g_iaload (n := 8) (f := R) rfl hR (by exact i_in (by omega) (by omega)) ?_
  refine g_iconst (n := 1) rfl ?_
  refine g_iadd rfl ?_
  refine g_iastore rfl hR (i_in (by omega) (by omega)) rfl ?_
  refine g_iload_n (i := 2) rfl rfl ?_
  refine g_ireturn (ty := .int) rfl rfl rfl ?_
  exact ⟨rfl, _, rfl⟩
theorem s_rfus {d : Nat} {h : sHp} {x : Int32} (hH : bH h) (x1 : -7 ≤ x.toInt) (x2 : x.toInt ≤ -1) : sDo (d + 2) 157 [.ref 0, .int x] h (fun r h' => r = some (.int x) ∧ ∃ R, h' = h.set 43 (.inl (0, 8, .inl R))) := by
  obtain ⟨fs, hf, -⟩ := bFldK hH (p := 0) (by decide) rfl
  refine sDo_of (d := d + 1) (nL := 2) (L := [some (.ref 0), some (.int x)]) rfl rfl ?_
  refine g_aload_n (i := 0) rfl rfl ?_
  refine g_iload_n (i := 1) rfl rfl ?_
  refine g_iload_n (i := 1) rfl rfl ?_
  refine g_virt2 (Qc := fun r h' => r = some (.int x) ∧ ∃ R, h' = h.set 43 (.inl (0, 8, .inl R))) rfl (by decide) rfl hf rfl (Nat.le_of_ble_eq_true rfl) (s_refA hH x1 x2) (fun r h9 hq9 => ?_)
  obtain ⟨rfl, hR⟩ := hq9
  refine g_ireturn (ty := .int) rfl rfl rfl ?_
  exact ⟨rfl, hR⟩
theorem s_no {d : Nat} {h : sHp} {x : Int32} (hH : bH h) (x1 : -7 ≤ x.toInt) (x2 : x.toInt ≤ -1) : sDo (d + 1) 169 [.ref 60, .int x] h (fun r h' => r = some (.int x) ∧ ∃ R, h' = h.set 61 (.inl (0, 8, .inl R))) := by
  have en : (-x).toInt = -x.toInt := by
    rw [Int32.toInt_neg]
    exact Int.bmod_eq_of_le (by omega) (by omega)
  obtain ⟨fs, hf, -⟩ := bObj60 hH
  obtain ⟨v8, f8, r8⟩ := bF60 hH hf (j := 8) (ty := .inr (2, 61)) (by decide +kernel)
  cases bT_one (by decide) (by decide +kernel) r8
  obtain ⟨R, hR, -⟩ := bA60 hH (p := 61) (n := 8) (lo := -2147483648) (hi := 2147483647) (cs := []) (by decide) rfl
  refine sDo_of (d := d) (nL := 2) (L := [some (.ref 60), some (.int x)]) rfl rfl ?_
  refine g_aload_n (i := 0) rfl rfl ?_
  refine g_getfield (v := .ref 61) rfl hf (by decide) f8 ?_
  refine g_iload_n (i := 1) rfl rfl ?_
  refine g_ineg rfl ?_
  refine g_dup2 rfl rfl rfl ?_
  refine g_iaload (n := 8) (f := R) rfl hR (by exact i_in (by omega) (by omega)) ?_
  refine g_iconst (n := 1) rfl ?_
  refine g_iadd rfl ?_
  refine g_iastore rfl hR (i_in (by omega) (by omega)) rfl ?_
  refine g_iload_n (i := 1) rfl rfl ?_
  refine g_ireturn (ty := .int) rfl rfl rfl ?_
  exact ⟨rfl, _, rfl⟩
theorem s_isHeld {d : Nat} {h : sHp} {p : Nat} {ot z : Int32} {ep : Nat} {b : Int32} (hp : h[p]? = some (.inr (7, [.int ot, .int z, .ref ep]))) (hb : b = if ot = -1 then 0 else 1) : sDo (d + 1) 81 [.ref p] h (fun r h' => h' = h ∧ r = some (.int b)) := by
  refine sDo_of (d := d) (nL := 1) (L := [some (.ref p)]) rfl rfl ?_
  refine g_aload_n (i := 0) rfl rfl ?_
  refine g_getfield (v := .int ot) rfl hp (by decide) rfl ?_
  refine g_iconst (n := (-1)) rfl ?_
  refine g_icmp_eq 12 rfl rfl (fun c1 => ?_) (fun c1 => ?_)
  · skip
    refine g_iconst (n := 0) rfl ?_
    refine g_ireturn (ty := .boolean) rfl rfl (by decide) ?_
    rw [hb, if_pos (show ot = -1 from c1)]; exact ⟨rfl, rfl⟩
  · skip
    refine g_iconst (n := 1) rfl ?_
    refine g_goto 13 rfl rfl ?_
    refine g_ireturn (ty := .boolean) rfl rfl (by decide) ?_
    rw [hb, if_neg (show ¬ ot = -1 from c1)]; exact ⟨rfl, rfl⟩
theorem s_noRow {d : Nat} {h : sHp} {hd so sz co : Nat → Int32} {cl : Nat → Int64} {f g : Nat → Option Nat} {s : Int32} {S : Nat} {ot z : Int32} {el : Nat → Int64} (hH : bH h) (q4 : bR4 h hd so sz co cl f g) (hs : s.toInt = S) (hS : S < 8) (b1 : h[44 + 2 * S]? = some (.inr (7, [.int ot, .int z, .ref (45 + 2 * S)]))) {nr : Int32} (hn : (g S = none ∧ ¬ ot = -1 ∧ nr = 0) ∨ (g S = none ∧ ot = -1 ∧ nr = -3) ∨ (∃ p, g S = some p ∧ nr = -2)) : sDo (d + 2) 161 [.ref 0, .int s] h (fun r h' => h' = h ∧ r = some (.int nr)) := by
  obtain ⟨a1, a2, a3, a4, a5, a6, a7, a8⟩ := q4
  obtain ⟨fs, hf, -, hfs⟩ := bFldK hH (p := 0) (by decide) rfl
  obtain ⟨v0, f0, r0⟩ := hfs 0 _ rfl
  cases bT_one (by decide) (by decide +kernel) r0
  obtain ⟨v1, f1, r1⟩ := hfs 1 _ rfl
  cases bT_one (by decide) (by decide +kernel) r1
  have sn : s.toNatClampNeg = S := i_nat hs
  have fS : va_rf (f s.toNatClampNeg) = .ref (44 + 2 * S) := by rw [sn, a2 S hS]; rfl
  refine sDo_of (d := d + 1) (nL := 2) (L := [some (.ref 0), some (.int s)]) rfl rfl ?_
  refine g_iload_n (i := 1) rfl rfl ?_
  refine g_static1 (Qc := fun r h' => h' = h ∧ r = some (.int 1)) rfl (by decide) rfl (Nat.le_of_ble_eq_true rfl) (s_sh11 (by rw [if_pos (by omega)])) (fun r h9 hq9 => ?_)
  obtain ⟨rfl, rfl⟩ := hq9
  refine g_if_ne 9 rfl rfl (fun _ => ?_) (fun hc => absurd hc (by decide))
  refine g_aload_n (i := 0) rfl rfl ?_
  refine g_getfield (v := .ref 2) rfl hf (by decide) f1 ?_
  refine g_iload_n (i := 1) rfl rfl ?_
  rcases hn with ⟨hg, ho, rfl⟩ | ⟨hg, ho, rfl⟩ | ⟨p, hg, rfl⟩
  · skip
    have hgS : va_rf (g s.toNatClampNeg) = .null := by rw [sn, hg]; rfl
    refine g_aaload rfl a3 (by decide) (i_in (by omega) (by omega)) ?_
    rw [hgS]
    refine g_ifnullN 21 rfl rfl ?_
    refine g_aload_n (i := 0) rfl rfl ?_
    refine g_getfield (v := .ref 1) rfl hf (by decide) f0 ?_
    refine g_iload_n (i := 1) rfl rfl ?_
    refine g_aaload rfl a1 (by decide) (i_in (by omega) (by omega)) ?_
    rw [fS]
    refine g_virt0 (Qc := fun r h' => h' = h9 ∧ r = some (.int 1)) rfl (by decide) rfl b1 rfl (Nat.le_of_ble_eq_true rfl) (s_isHeld b1 (by rw [if_neg ho])) (fun r h8 hq9 => ?_)
    obtain ⟨rfl, rfl⟩ := hq9
    refine g_if_eq 37 rfl rfl (fun hc => absurd hc (by decide)) (fun _ => ?_)
    refine g_iconst (n := 0) rfl ?_
    refine g_goto 39 rfl rfl ?_
    refine g_ireturn (ty := .int) rfl rfl rfl ?_
    exact ⟨rfl, rfl⟩
  · skip
    have hgS : va_rf (g s.toNatClampNeg) = .null := by rw [sn, hg]; rfl
    refine g_aaload rfl a3 (by decide) (i_in (by omega) (by omega)) ?_
    rw [hgS]
    refine g_ifnullN 21 rfl rfl ?_
    refine g_aload_n (i := 0) rfl rfl ?_
    refine g_getfield (v := .ref 1) rfl hf (by decide) f0 ?_
    refine g_iload_n (i := 1) rfl rfl ?_
    refine g_aaload rfl a1 (by decide) (i_in (by omega) (by omega)) ?_
    rw [fS]
    refine g_virt0 (Qc := fun r h' => h' = h9 ∧ r = some (.int 0)) rfl (by decide) rfl b1 rfl (Nat.le_of_ble_eq_true rfl) (s_isHeld b1 (by rw [if_pos ho])) (fun r h8 hq9 => ?_)
    obtain ⟨rfl, rfl⟩ := hq9
    refine g_if_eq 37 rfl rfl (fun _ => ?_) (fun hc => absurd hc (by decide))
    refine g_bipush (n := (-3)) rfl ?_
    refine g_ireturn (ty := .int) rfl rfl rfl ?_
    exact ⟨rfl, rfl⟩
  · skip
    have hgS : va_rf (g s.toNatClampNeg) = .ref p := by rw [sn, hg]; rfl
    refine g_aaload rfl a3 (by decide) (i_in (by omega) (by omega)) ?_
    rw [hgS]
    refine g_ifnull 21 rfl rfl ?_
    refine g_bipush (n := (-2)) rfl ?_
    refine g_ireturn (ty := .int) rfl rfl rfl ?_
    exact ⟨rfl, rfl⟩
end
section
/-! ===== pairs of calls ===== -/
def bPair (k1 k2 : Nat) (as : List Value) : Prop := ∀ h, bH h → bR5 h → sDo 10 k1 (.ref 0 :: as) h (fun r1 h1 => bH h1 ∧ h1.length ≤ h.length + 1 ∧ sDo 10 k2 (.ref 60 :: as) h1 (fun r2 h2 => bH h2 ∧ h2.length ≤ h1.length + 1 ∧ bR5 h2 ∧ ∃ x, r1 = some x ∧ r2 = some x))
theorem pr_use {c : bCn} {vs : List Value} (hc : bHolds c) (hd : Nat.ble c.2.1 10 = true) (hg : Nat.ble c.2.2.2.2.2.1 1 = true) (ho : c.2.2.2.1 = []) {h : sHp} (hH : bH h) (ht : bTl h c.2.2.1 vs) : sDo 10 c.1 vs h (fun _ h' => bH h' ∧ h'.length ≤ h.length + 1) := by
  refine sDo_up (Nat.le_of_ble_eq_true hd) (sDo_mono (hc h vs hH ht (by rw [ho]; exact fun e he => by cases he)) (fun r h' hen => ⟨hen.1, ?_⟩))
  have := hen.2.1.2.1
  have := Nat.le_of_ble_eq_true hg
  omega
theorem pair_of {k1 k2 : Nat} {as : List Value} (P : sHp → sHp → Value → Prop) (c1 : ∀ h, bH h → sDo 10 k1 (.ref 0 :: as) h (fun _ h' => bH h' ∧ h'.length ≤ h.length + 1)) (c2 : ∀ h, bH h → sDo 10 k2 (.ref 60 :: as) h (fun _ h' => bH h' ∧ h'.length ≤ h.length + 1)) (e1 : ∀ h, bH h → bR5 h → sDo 10 k1 (.ref 0 :: as) h (fun r h' => ∃ x, r = some x ∧ P h h' x)) (e2 : ∀ h h1 x, bH h → bH h1 → P h h1 x → sDo 10 k2 (.ref 60 :: as) h1 (fun r h' => r = some x ∧ bR5 h')) : bPair k1 k2 as := by
  intro h hH hR
  refine sDo_mono (sDo_and (c1 h hH) (e1 h hH hR)) (fun r1 h1 q => ?_)
  obtain ⟨⟨q1, q2⟩, x, rfl, q3⟩ := q
  exact ⟨q1, q2, sDo_mono (sDo_and (c2 h1 q1) (e2 h h1 x hH q1 q3)) (fun r2 h2 z => ⟨z.1.1, z.1.2, z.2.2, x, rfl, z.2.1⟩)⟩
theorem vI0 {h : sHp} (x : Int32) : bT h (.inl (.negSucc 2147483647, .ofNat 2147483647)) (.int x) := ⟨x, rfl, (aFull_ok x).1, (aFull_ok x).2⟩
theorem vL0 {h : sHp} (x : Int64) : bT h (.inr (0, 0)) (.long x) := ⟨x, rfl⟩
theorem u_at {f : Nat → Int32} {k : Nat} {x : Int32} : upd f k x k = x := if_pos rfl
theorem u_ne {f : Nat → Int32} {k j : Nat} {x : Int32} (h : j ≠ k) : upd f k x j = f j := if_neg h
/-- the answers of a call refused at once -/
def pOut (x : Int32) (h h' : sHp) (y : Value) : Prop := y = .int x ∧ bR5 h ∧ ∃ R, h' = h.set 43 (.inl (0, 8, .inl R))
theorem pOut_R {x : Int32} {h h' : sHp} {y : Value} (q : pOut x h h' y) : bR5 h' := by
  obtain ⟨-, q1, R, rfl⟩ := q
  exact bR5_set q1 (by decide) (by decide) (by decide) (by decide) (by decide)
theorem no_R {h : sHp} {R : Nat → Int32} (q : bR5 h) : bR5 (h.set 61 (.inl (0, 8, .inl R))) := bR5_set q (by decide) (by decide) (by decide) (by decide) (by decide)
/-! row -/
theorem s_renew_go {d : Nat} {h : sHp} {p ep : Nat} {so n : Int32} {el0 : Nat → Int64} {Q : Option Value → sHp → Prop} (hp : h[p]? = some (.inr (7, [.int so, .int n, .ref ep]))) (he : h[ep]? = some (.inl (1, 100, .inr (.inl el0)))) (hne : p ≠ ep) (n1 : n.toInt ≤ 100) (hQ : ∀ el : Nat → Int64, (∀ i : Nat, (i : Int) < n.toInt → el i = 0) → Q none (h.set ep (.inl (1, 100, .inr (.inl el))))) : ∀ (N : Nat) (k : Int32) (el : Nat → Int64), 0 ≤ k.toInt → k.toInt ≤ 100 → (∀ i : Nat, (i : Int) < k.toInt → el i = 0) → (100 - k.toInt).toNat < N → sGo none 79 d 21 [some (.ref p), some (.int so), some (.int n), some (.int k)] [] (h.set ep (.inl (1, 100, .inr (.inl el)))) Q := by
  intro N
  induction N with
  | zero => intro k el _ _ _ hl; omega
  | succ N ih =>
    intro k el k0 k1 hk hl
    have e1 : (Int32.ofInt 1).toInt = 1 := rfl
    have hp2 : (h.set ep (.inl (1, 100, .inr (.inl el))))[p]? = some (.inr (7, [.int so, .int n, .ref ep])) := by rw [s_set_ne (Ne.symm hne)]; exact hp
    refine g_iload_n (i := 3) rfl rfl ?_
    refine g_aload_n (i := 0) rfl rfl ?_
    refine g_getfield (v := .int n) rfl hp2 (by decide) rfl ?_
    refine g_icmp_ge 42 rfl rfl (fun hc => ?_) (fun hc => ?_)
    · skip
      rw [i_le] at hc
      refine g_return rfl rfl ?_
      exact hQ el (fun i hi => hk i (by omega))
    · skip
      rw [i_le] at hc
      refine g_aload_n (i := 0) rfl rfl ?_
      refine g_getfield (v := .ref ep) rfl hp2 (by decide) rfl ?_
      refine g_iload_n (i := 3) rfl rfl ?_
      refine g_lconst (n := 0) rfl ?_
      refine g_lastore (h1 := h.set ep (.inl (1, 100, .inr (.inl (vp_updL el k.toNatClampNeg (Int64.ofNat 0)))))) rfl (s_set_eq he) (i_in (by omega) (by omega)) (List.set_set ..) ?_
      refine g_iinc (i := 3) (L1 := [some (.ref p), some (.int so), some (.int n), some (.int (k + Int32.ofInt 1))]) rfl rfl rfl ?_
      refine g_goto 21 rfl rfl ?_
      have kn : (k.toNatClampNeg : Int) = k.toInt := by
        show ((k.toInt.toNat : Nat) : Int) = k.toInt
        omega
      refine ih _ _ (by rw [i_add (by omega) (by omega)]; omega) (by rw [i_add (by omega) (by omega)]; omega) (fun i hi => ?_) (by rw [i_add (by omega) (by omega)]; omega)
      rw [i_add (by omega) (by omega), e1] at hi
      unfold vp_updL
      split
      · rfl
      · exact hk i (by omega)
theorem s_renew {d : Nat} {h : sHp} {p ep : Nat} {o z so n : Int32} {el : Nat → Int64} {Q : Option Value → sHp → Prop} (hp : h[p]? = some (.inr (7, [.int o, .int z, .ref ep]))) (he : h[ep]? = some (.inl (1, 100, .inr (.inl el)))) (hne : p ≠ ep) (n0 : 0 ≤ n.toInt) (n1 : n.toInt ≤ 100) (hQ : ∀ el : Nat → Int64, (∀ i : Nat, (i : Int) < n.toInt → el i = 0) → Q none ((h.set p (.inr (7, [.int so, .int n, .ref ep]))).set ep (.inl (1, 100, .inr (.inl el))))) : sDo (d + 1) 79 [.ref p, .int so, .int n] h Q := by
  have e0 : (Int32.ofInt 0).toInt = 0 := rfl
  have e100 : (Int8.ofInt 100).toInt32.toInt = 100 := rfl
  have hp1 : (h.set p (.inr (7, [.int so, .int z, .ref ep])))[p]? = some (.inr (7, [.int so, .int z, .ref ep])) := s_set_eq hp
  have hp2 : (h.set p (.inr (7, [.int so, .int n, .ref ep])))[p]? = some (.inr (7, [.int so, .int n, .ref ep])) := s_set_eq hp
  have he2 : (h.set p (.inr (7, [.int so, .int n, .ref ep])))[ep]? = some (.inl (1, 100, .inr (.inl el))) := by rw [s_set_ne hne]; exact he
  have hmin : (if (Int8.ofInt 100).toInt32 < n then (Int8.ofInt 100).toInt32 else n) = n := if_neg (by rw [i_lt, e100]; omega)
  have hmax : (if Int32.ofInt 0 < n then n else Int32.ofInt 0) = n := by
    by_cases z : Int32.ofInt 0 < n
    · exact if_pos z
    · rw [if_neg z]
      rw [i_lt, e0] at z
      exact Int32.toInt_inj.mp (by rw [e0]; omega)
  refine sDo_of (d := d) (nL := 4) (L := [some (.ref p), some (.int so), some (.int n), none]) rfl rfl ?_
  refine g_aload_n (i := 0) rfl rfl ?_
  refine g_iload_n (i := 1) rfl rfl ?_
  refine g_putfield (h1 := h.set p (.inr (7, [.int so, .int z, .ref ep]))) rfl hp (by decide) (Nat.le_of_ble_eq_true rfl) rfl rfl ?_
  refine g_aload_n (i := 0) rfl rfl ?_
  refine g_iconst (n := 0) rfl ?_
  refine g_iload_n (i := 2) rfl rfl ?_
  refine g_bipush (n := 100) rfl ?_
  refine g_min rfl (Nat.le_of_ble_eq_true rfl) ?_
  rw [hmin]
  refine g_max rfl (Nat.le_of_ble_eq_true rfl) ?_
  rw [hmax]
  refine g_putfield (h1 := h.set p (.inr (7, [.int so, .int n, .ref ep]))) rfl hp1 (by decide) (Nat.le_of_ble_eq_true rfl) rfl (List.set_set ..) ?_
  refine g_iconst (n := 0) rfl ?_
  refine g_istore_n (i := 3) (L1 := [some (.ref p), some (.int so), some (.int n), some (.int (Int32.ofInt 0))]) rfl (Nat.le_of_ble_eq_true rfl) rfl ?_
  have h0 := s_renew_go (d := d) hp2 he2 hne n1 hQ 101 (Int32.ofInt 0) el (by decide) (by decide) (fun i hi => by rw [e0] at hi; omega) (by decide)
  rw [s_set_self he2] at h0
  exact h0
def pRow (s so n : Int32) (S : Nat) (h h' : sHp) (y : Value) : Prop := y = .int 1 ∧ ∃ (hd so0 sz co : Nat → Int32) (cl : Nat → Int64) (f g : Nat → Option Nat) (el : Nat → Int64), bR4 h hd so0 sz co cl f g ∧ (∀ s, s < 8 → bRS hd so0 sz co cl g h s) ∧ (∀ i : Nat, (i : Int) < n.toInt → el i = 0) ∧ h' = ((h.set 2 (.inl (4, 8, .inr (.inr (.inr (.inr (va_up g S none))))))).set (44 + 2 * S) (.inr (7, [.int so, .int n, .ref (45 + 2 * S)]))).set (45 + 2 * S) (.inl (1, 100, .inr (.inl el)))
theorem s_row11 {h : sHp} {s so n : Int32} {S : Nat} (hH : bH h) (hR : bR5 h) (hs : s.toInt = S) (hS : S < 8) (o1 : 0 ≤ so.toInt) (o2 : so.toInt ≤ 3) (n0 : 0 ≤ n.toInt) (n1 : n.toInt ≤ 100) : sDo 10 114 [.ref 0, .int s, .int so, .int n] h (fun r h' => ∃ x, r = some x ∧ pRow s so n S h h' x) := by
  obtain ⟨hd, so0, sz, co, cl, f, g, q4, q5⟩ := hR
  have q4c := q4
  obtain ⟨ot, z, el, b1, b2, b3⟩ := q5 S hS
  obtain ⟨a1, a2, a3, a4, a5, a6, a7, a8⟩ := q4
  obtain ⟨fs, hf, -, hfs⟩ := bFldK hH (p := 0) (by decide) rfl
  obtain ⟨v0, f0, r0⟩ := hfs 0 _ rfl
  cases bT_one (by decide) (by decide +kernel) r0
  obtain ⟨v1, f1, r1⟩ := hfs 1 _ rfl
  cases bT_one (by decide) (by decide +kernel) r1
  have sn : s.toNatClampNeg = S := i_nat hs
  have fS : va_rf (f s.toNatClampNeg) = .ref (44 + 2 * S) := by rw [sn, a2 S hS]; rfl
  have e0 : (0 : Int32).toInt = 0 := rfl
  have e3 : (Int32.ofInt 3).toInt = 3 := rfl
  have e100 : (Int8.ofInt 100).toInt32.toInt = 100 := rfl
  refine sDo_of (d := 9) (nL := 4) (L := [some (.ref 0), some (.int s), some (.int so), some (.int n)]) rfl rfl ?_
  refine g_iload_n (i := 1) rfl rfl ?_
  refine g_static1 (Qc := fun r h' => h' = h ∧ r = some (.int 1)) rfl (by decide) rfl (Nat.le_of_ble_eq_true rfl) (s_sh11 (by rw [if_pos (by omega)])) (fun r h9 hq9 => ?_)
  obtain ⟨rfl, rfl⟩ := hq9
  refine g_if_ne 13 rfl rfl (fun _ => ?_) (fun hc => absurd hc (by decide))
  refine g_iload_n (i := 3) rfl rfl ?_
  refine g_if_ge 24 rfl rfl (fun _ => ?_) (fun hc => absurd hc (by rw [i_le, e0]; omega))
  refine g_iload_n (i := 2) rfl rfl ?_
  refine g_if_lt 33 rfl rfl (fun hc => absurd hc (by rw [i_lt, e0]; omega)) (fun _ => ?_)
  refine g_iload_n (i := 2) rfl rfl ?_
  refine g_iconst (n := 3) rfl ?_
  refine g_icmp_le 40 rfl rfl (fun _ => ?_) (fun hc => absurd hc (by rw [i_le, e3]; omega))
  refine g_iload_n (i := 3) rfl rfl ?_
  refine g_bipush (n := 100) rfl ?_
  refine g_icmp_le 53 rfl rfl (fun _ => ?_) (fun hc => absurd hc (by rw [i_le, e100]; omega))
  refine g_aload_n (i := 0) rfl rfl ?_
  refine g_getfield (v := .ref 2) rfl hf (by decide) f1 ?_
  refine g_iload_n (i := 1) rfl rfl ?_
  refine g_aconst_null rfl ?_
  refine g_aastoreN rfl a3 (by decide) (i_in (by omega) (by omega)) rfl ?_
  rw [sn]
  have hf1 : (h9.set 2 (.inl (4, 8, .inr (.inr (.inr (.inr (va_up g S none)))))))[0]? = some (.inr (11, fs)) := by rw [s_set_ne (by decide)]; exact hf
  have a11 : (h9.set 2 (.inl (4, 8, .inr (.inr (.inr (.inr (va_up g S none)))))))[1]? = some (.inl (3, 8, .inr (.inr (.inr (.inr f))))) := by rw [s_set_ne (by decide)]; exact a1
  have b11 : (h9.set 2 (.inl (4, 8, .inr (.inr (.inr (.inr (va_up g S none)))))))[44 + 2 * S]? = some (.inr (7, [.int ot, .int z, .ref (45 + 2 * S)])) := by rw [s_set_ne (by omega)]; exact b1
  have b21 : (h9.set 2 (.inl (4, 8, .inr (.inr (.inr (.inr (va_up g S none)))))))[45 + 2 * S]? = some (.inl (1, 100, .inr (.inl el))) := by rw [s_set_ne (by omega)]; exact b2
  refine g_aload_n (i := 0) rfl rfl ?_
  refine g_getfield (v := .ref 1) rfl hf1 (by decide) f0 ?_
  refine g_iload_n (i := 1) rfl rfl ?_
  refine g_aaload rfl a11 (by decide) (i_in (by omega) (by omega)) ?_
  rw [fS]
  refine g_iload_n (i := 2) rfl rfl ?_
  refine g_iload_n (i := 3) rfl rfl ?_
  refine g_virt2 (Qc := fun r h' => r = none ∧ ∃ el' : Nat → Int64, (∀ i : Nat, (i : Int) < n.toInt → el' i = 0) ∧ h' = ((List.set h9 2 (.inl (4, 8, .inr (.inr (.inr (.inr (va_up g S none))))))).set (44 + 2 * S) (.inr (7, [.int so, .int n, .ref (45 + 2 * S)]))).set (45 + 2 * S) (.inl (1, 100, .inr (.inl el')))) rfl (by decide) rfl b11 rfl (Nat.le_of_ble_eq_true rfl) (s_renew b11 b21 (by omega) n0 n1 (fun el' hel => ⟨rfl, el', hel, rfl⟩)) (fun r h8 hq8 => ?_)
  obtain ⟨rfl, el', hel, rfl⟩ := hq8
  refine g_iconst (n := 1) rfl ?_
  refine g_ireturn (ty := .int) rfl rfl rfl ?_
  exact ⟨_, rfl, rfl, hd, so0, sz, co, cl, f, g, el', q4c, q5, hel, rfl⟩
def zr (cl : Nat → Int64) (S k : Nat) : Nat → Int64 := fun j => if 100 * S ≤ j ∧ j < 100 * S + k then 0 else cl j
theorem zr_0 (cl : Nat → Int64) (S : Nat) : zr cl S 0 = cl := funext fun j => by
  unfold zr
  rw [if_neg (by omega)]
theorem zr_s (cl : Nat → Int64) (S k : Nat) : vp_updL (zr cl S k) (100 * S + k) (Int64.ofNat 0) = zr cl S (k + 1) := funext fun j => by
  unfold vp_updL zr
  by_cases e : j = 100 * S + k
  · rw [if_pos e, if_pos (by omega)]; rfl
  · rw [if_neg e]
    by_cases e2 : 100 * S ≤ j ∧ j < 100 * S + k
    · rw [if_pos e2, if_pos (by omega)]
    · rw [if_neg e2, if_neg (by omega)]
theorem s_row12_go {d : Nat} {h : sHp} {s so n : Int32} {S : Nat} {fs : List Value} {cl : Nat → Int64} {Q : Option Value → sHp → Prop} (hf : h[60]? = some (.inr (12, fs))) (f18 : fs[18]? = some (.ref 71)) (a8 : h[71]? = some (.inl (1, 800, .inr (.inl cl)))) (hs : s.toInt = S) (hS : S < 8) (hQ : Q (some (.int 1)) (h.set 71 (.inl (1, 800, .inr (.inl (zr cl S 100)))))) : ∀ (N : Nat) (k : Int32) (K : Nat), k.toInt = K → K ≤ 100 → 100 - K < N → sGo none 178 d 78 [some (.ref 60), some (.int s), some (.int so), some (.int n), some (.int k)] [] (h.set 71 (.inl (1, 800, .inr (.inl (zr cl S K))))) Q := by
  intro N
  induction N with
  | zero => intro k K _ _ hl; omega
  | succ N ih =>
    intro k K hk hK hl
    have e1 : (Int32.ofInt 1).toInt = 1 := rfl
    have e100 : (Int8.ofInt 100).toInt32.toInt = 100 := rfl
    have hf2 : (h.set 71 (.inl (1, 800, .inr (.inl (zr cl S K)))))[60]? = some (.inr (12, fs)) := by rw [s_set_ne (by decide)]; exact hf
    refine g_iload (i := 4) rfl rfl ?_
    refine g_bipush (n := 100) rfl ?_
    refine g_icmp_ge 104 rfl rfl (fun hc => ?_) (fun hc => ?_)
    · skip
      rw [i_le, e100] at hc
      have hK2 : K = 100 := by omega
      subst hK2
      refine g_iconst (n := 1) rfl ?_
      refine g_ireturn (ty := .int) rfl rfl rfl ?_
      exact hQ
    · skip
      rw [i_le, e100] at hc
      have m1 : ((Int8.ofInt 100).toInt32 * s).toInt = 100 * S := by rw [i_mul (by rw [e100]; omega) (by rw [e100]; omega), e100, hs]
      have m2 : ((Int8.ofInt 100).toInt32 * s + k).toInt = ((100 * S + K : Nat) : Int) := by rw [i_add (by rw [m1]; omega) (by rw [m1]; omega), m1, hk]; omega
      refine g_aload_n (i := 0) rfl rfl ?_
      refine g_getfield (v := .ref 71) rfl hf2 (by decide) f18 ?_
      refine g_bipush (n := 100) rfl ?_
      refine g_iload_n (i := 1) rfl rfl ?_
      refine g_imul rfl ?_
      refine g_iload (i := 4) rfl rfl ?_
      refine g_iadd rfl ?_
      refine g_lconst (n := 0) rfl ?_
      refine g_lastore (h1 := h.set 71 (.inl (1, 800, .inr (.inl (zr cl S (K + 1)))))) rfl (s_set_eq a8) (i_in (by omega) (by omega)) (by rw [i_nat m2, List.set_set]; exact congrArg (fun e => h.set 71 (.inl (1, 800, .inr (.inl e)))) (zr_s cl S K)) ?_
      refine g_iinc (i := 4) (L1 := [some (.ref 60), some (.int s), some (.int so), some (.int n), some (.int (k + Int32.ofInt 1))]) rfl rfl rfl ?_
      refine g_goto 78 rfl rfl ?_
      exact ih _ (K + 1) (by rw [i_add (by omega) (by omega)]; omega) (by omega) (by omega)
theorem s_row12 {h h1 : sHp} {s so n : Int32} {S : Nat} {x : Value} (hH : bH h1) (hP : pRow s so n S h h1 x) (hs : s.toInt = S) (hS : S < 8) (o1 : 0 ≤ so.toInt) (o2 : so.toInt ≤ 3) (n0 : 0 ≤ n.toInt) (n1 : n.toInt ≤ 100) : sDo 10 178 [.ref 60, .int s, .int so, .int n] h1 (fun r h' => r = some x ∧ bR5 h') := by
  obtain ⟨rfl, hd, so0, sz, co, cl, f, g, el, ⟨a1, a2, a3, a4, a5, a6, a7, a8⟩, q5, hel, e9⟩ := hP
  obtain ⟨fs, hf, -⟩ := bObj60 hH
  obtain ⟨w14, f14, r14⟩ := bF60 hH hf (j := 14) (ty := .inr (2, 67)) (by decide +kernel)
  cases bT_one (by decide) (by decide +kernel) r14
  obtain ⟨w15, f15, r15⟩ := bF60 hH hf (j := 15) (ty := .inr (2, 68)) (by decide +kernel)
  cases bT_one (by decide) (by decide +kernel) r15
  obtain ⟨w16, f16, r16⟩ := bF60 hH hf (j := 16) (ty := .inr (2, 69)) (by decide +kernel)
  cases bT_one (by decide) (by decide +kernel) r16
  obtain ⟨w17, f17, r17⟩ := bF60 hH hf (j := 17) (ty := .inr (2, 70)) (by decide +kernel)
  cases bT_one (by decide) (by decide +kernel) r17
  obtain ⟨w18, f18, r18⟩ := bF60 hH hf (j := 18) (ty := .inr (2, 71)) (by decide +kernel)
  cases bT_one (by decide) (by decide +kernel) r18
  have sn : s.toNatClampNeg = S := i_nat hs
  have e0 : (0 : Int32).toInt = 0 := rfl
  have e3 : (Int32.ofInt 3).toInt = 3 := rfl
  have e100 : (Int8.ofInt 100).toInt32.toInt = 100 := rfl
  have c4 : h1[67]? = some (.inl (0, 8, .inl hd)) := by rw [e9, s_set_ne (by omega), s_set_ne (by omega), s_set_ne (by omega)]; exact a4
  have c5 : h1[68]? = some (.inl (0, 8, .inl so0)) := by rw [e9, s_set_ne (by omega), s_set_ne (by omega), s_set_ne (by omega)]; exact a5
  have c6 : h1[69]? = some (.inl (0, 8, .inl sz)) := by rw [e9, s_set_ne (by omega), s_set_ne (by omega), s_set_ne (by omega)]; exact a6
  have c7 : h1[70]? = some (.inl (0, 8, .inl co)) := by rw [e9, s_set_ne (by omega), s_set_ne (by omega), s_set_ne (by omega)]; exact a7
  have c8 : h1[71]? = some (.inl (1, 800, .inr (.inl cl))) := by rw [e9, s_set_ne (by omega), s_set_ne (by omega), s_set_ne (by omega)]; exact a8
  have c1 : h1[1]? = some (.inl (3, 8, .inr (.inr (.inr (.inr f))))) := by rw [e9, s_set_ne (by omega), s_set_ne (by omega), s_set_ne (by omega)]; exact a1
  have c3 : h1[2]? = some (.inl (4, 8, .inr (.inr (.inr (.inr (va_up g S none)))))) := by rw [e9, s_set_ne (by omega), s_set_ne (by omega)]; exact s_set_eq a3
  obtain ⟨ot, z, el0, p1, p2, -⟩ := q5 S hS
  have cr : h1[44 + 2 * S]? = some (.inr (7, [.int so, .int n, .ref (45 + 2 * S)])) := by rw [e9, s_set_ne (by omega)]; exact s_set_eq (by rw [s_set_ne (by omega)]; exact p1)
  have ce : h1[45 + 2 * S]? = some (.inl (1, 100, .inr (.inl el))) := by rw [e9]; exact s_set_eq (by rw [s_set_ne (by omega), s_set_ne (by omega)]; exact p2)
  have co' : ∀ t, t < 8 → t ≠ S → bRS hd so0 sz co cl g h1 t := fun t ht hne => by
    rw [e9]
    exact bRS_set (bRS_set (bRS_set (q5 t ht) (by omega) (by omega) (by omega)) (by omega) (by omega) (by omega)) (by omega) (by omega) (by omega)
  clear e9 q5 a1 a3 a4 a5 a6 a7 a8 p1 p2
  refine sDo_of (d := 9) (nL := 5) (L := [some (.ref 60), some (.int s), some (.int so), some (.int n), none]) rfl rfl ?_
  refine g_aload_n (i := 0) rfl rfl ?_
  refine g_iload_n (i := 1) rfl rfl ?_
  refine g_virt1 (Qc := fun r h' => h' = h1 ∧ r = some (.int 1)) rfl (by decide) rfl hf rfl (Nat.le_of_ble_eq_true rfl) (s_sh12 (by rw [if_pos (by omega)])) (fun r h9 hq9 => ?_)
  obtain ⟨rfl, rfl⟩ := hq9
  refine g_if_ne 14 rfl rfl (fun _ => ?_) (fun hc => absurd hc (by decide))
  refine g_iload_n (i := 3) rfl rfl ?_
  refine g_if_ge 25 rfl rfl (fun _ => ?_) (fun hc => absurd hc (by rw [i_le, e0]; omega))
  refine g_iload_n (i := 2) rfl rfl ?_
  refine g_if_lt 34 rfl rfl (fun hc => absurd hc (by rw [i_lt, e0]; omega)) (fun _ => ?_)
  refine g_iload_n (i := 2) rfl rfl ?_
  refine g_iconst (n := 3) rfl ?_
  refine g_icmp_le 41 rfl rfl (fun _ => ?_) (fun hc => absurd hc (by rw [i_le, e3]; omega))
  refine g_iload_n (i := 3) rfl rfl ?_
  refine g_bipush (n := 100) rfl ?_
  refine g_icmp_le 54 rfl rfl (fun _ => ?_) (fun hc => absurd hc (by rw [i_le, e100]; omega))
  refine g_aload_n (i := 0) rfl rfl ?_
  refine g_getfield (v := .ref 67) rfl hf (by decide) f14 ?_
  refine g_iload_n (i := 1) rfl rfl ?_
  refine g_iconst (n := 1) rfl ?_
  refine g_iastore (h1 := (List.set h9 67 (.inl (0, 8, .inl (upd hd S (Int32.ofInt 1)))))) rfl c4 (i_in (by omega) (by omega)) (by rw [sn]) ?_
  have hf1 : ((List.set h9 67 (.inl (0, 8, .inl (upd hd S (Int32.ofInt 1))))) : sHp)[60]? = some (.inr (12, fs)) := by rw [s_set_ne (by decide)]; exact hf
  refine g_aload_n (i := 0) rfl rfl ?_
  refine g_getfield (v := .ref 68) rfl hf1 (by decide) f15 ?_
  refine g_iload_n (i := 1) rfl rfl ?_
  refine g_iload_n (i := 2) rfl rfl ?_
  refine g_iastore (h1 := (List.set (List.set h9 67 (.inl (0, 8, .inl (upd hd S (Int32.ofInt 1))))) 68 (.inl (0, 8, .inl (upd so0 S so))))) rfl (by rw [s_set_ne (by decide)]; exact c5) (i_in (by omega) (by omega)) (by rw [sn]) ?_
  have hf2 : ((List.set (List.set h9 67 (.inl (0, 8, .inl (upd hd S (Int32.ofInt 1))))) 68 (.inl (0, 8, .inl (upd so0 S so)))) : sHp)[60]? = some (.inr (12, fs)) := by rw [s_set_ne (by decide), s_set_ne (by decide)]; exact hf
  refine g_aload_n (i := 0) rfl rfl ?_
  refine g_getfield (v := .ref 69) rfl hf2 (by decide) f16 ?_
  refine g_iload_n (i := 1) rfl rfl ?_
  refine g_iload_n (i := 3) rfl rfl ?_
  refine g_iastore (h1 := (List.set (List.set (List.set h9 67 (.inl (0, 8, .inl (upd hd S (Int32.ofInt 1))))) 68 (.inl (0, 8, .inl (upd so0 S so)))) 69 (.inl (0, 8, .inl (upd sz S n))))) rfl (by rw [s_set_ne (by decide), s_set_ne (by decide)]; exact c6) (i_in (by omega) (by omega)) (by rw [sn]) ?_
  refine g_iconst (n := 0) rfl ?_
  refine g_istore (i := 4) (L1 := [some (.ref 60), some (.int s), some (.int so), some (.int n), some (.int (Int32.ofInt 0))]) rfl (Nat.le_of_ble_eq_true rfl) rfl ?_
  have hf3 : ((List.set (List.set (List.set h9 67 (.inl (0, 8, .inl (upd hd S (Int32.ofInt 1))))) 68 (.inl (0, 8, .inl (upd so0 S so)))) 69 (.inl (0, 8, .inl (upd sz S n)))) : sHp)[60]? = some (.inr (12, fs)) := by rw [s_set_ne (by decide), s_set_ne (by decide), s_set_ne (by decide)]; exact hf
  have c83 : ((List.set (List.set (List.set h9 67 (.inl (0, 8, .inl (upd hd S (Int32.ofInt 1))))) 68 (.inl (0, 8, .inl (upd so0 S so)))) 69 (.inl (0, 8, .inl (upd sz S n)))) : sHp)[71]? = some (.inl (1, 800, .inr (.inl cl))) := by rw [s_set_ne (by decide), s_set_ne (by decide), s_set_ne (by decide)]; exact c8
  have h0 := s_row12_go (d := 9) (so := so) (n := n) (Q := fun r h' => r = some (.int 1) ∧ bR5 h') hf3 f18 c83 hs hS ?_ 101 (Int32.ofInt 0) 0 rfl (by omega) (by omega)
  · rw [zr_0, s_set_self c83] at h0
    exact h0
  · refine ⟨rfl, upd hd S (Int32.ofInt 1), upd so0 S so, upd sz S n, co, zr cl S 100, f, va_up g S none, ⟨?_, a2, ?_, ?_, ?_, ?_, ?_, ?_⟩, fun t ht => ?_⟩
    · rw [s_set_ne (by decide), s_set_ne (by decide), s_set_ne (by decide), s_set_ne (by decide)]; exact c1
    · rw [s_set_ne (by decide), s_set_ne (by decide), s_set_ne (by decide), s_set_ne (by decide)]; exact c3
    · rw [s_set_ne (by decide), s_set_ne (by decide), s_set_ne (by decide)]; exact s_set_eq c4
    · rw [s_set_ne (by decide), s_set_ne (by decide)]; exact s_set_eq (by rw [s_set_ne (by decide)]; exact c5)
    · rw [s_set_ne (by decide)]; exact s_set_eq (by rw [s_set_ne (by decide), s_set_ne (by decide)]; exact c6)
    · rw [s_set_ne (by decide), s_set_ne (by decide), s_set_ne (by decide), s_set_ne (by decide)]; exact c7
    · exact s_set_eq c83
    · by_cases hts : t = S
      · subst hts
        refine ⟨so, n, el, ?_, ?_, Or.inr (Or.inl ⟨u_at, va_up_self _ _ _, u_at.symm, o1, o2, u_at.symm, n0, n1, fun i hi => ?_⟩)⟩
        · rw [s_set_ne (by omega), s_set_ne (by omega), s_set_ne (by omega), s_set_ne (by omega)]; exact cr
        · rw [s_set_ne (by omega), s_set_ne (by omega), s_set_ne (by omega), s_set_ne (by omega)]; exact ce
        · rw [hel i hi]
          unfold zr
          rw [if_pos (by omega)]
      · obtain ⟨ot', z', el', r1, r2, r3⟩ := bRS_set (p := 71) (c := .inl (1, 800, .inr (.inl (zr cl S 100)))) (bRS_set (p := 69) (c := .inl (0, 8, .inl (upd sz S n))) (bRS_set (p := 68) (c := .inl (0, 8, .inl (upd so0 S so))) (bRS_set (p := 67) (c := .inl (0, 8, .inl (upd hd S (Int32.ofInt 1)))) (co' t ht hts) (by decide) (by omega) (by omega)) (by decide) (by omega) (by omega)) (by decide) (by omega) (by omega)) (by decide) (by omega) (by omega)
        refine ⟨ot', z', el', r1, r2, ?_⟩
        rcases r3 with ⟨x1, x2, x3⟩ | ⟨x1, x2, x3, x4, x5, x6, x7, x8, x9⟩ | ⟨x1, x2, pc, x3, x4, x5⟩
        · exact Or.inl ⟨by rw [u_ne hts]; exact x1, by rw [va_up_ne _ _ hts]; exact x2, x3⟩
        · refine Or.inr (Or.inl ⟨by rw [u_ne hts]; exact x1, by rw [va_up_ne _ _ hts]; exact x2, by rw [u_ne hts]; exact x3, x4, x5, by rw [u_ne hts]; exact x6, x7, x8, fun i hi => ?_⟩)
          rw [x9 i hi]
          unfold zr
          rw [if_neg (by omega)]
        · exact Or.inr (Or.inr ⟨by rw [u_ne hts]; exact x1, x2, pc, x3, by rw [va_up_ne _ _ hts]; exact x4, x5⟩)
end
section
/-! ===== pairs: set, element, holds ===== -/
theorem pair_case {k1 k2 : Nat} {as : List Value} {h : sHp} {x : Value} {P : sHp → Prop} (hH : bH h) (c1 : ∀ h, bH h → sDo 10 k1 (.ref 0 :: as) h (fun _ h' => bH h' ∧ h'.length ≤ h.length + 1)) (c2 : ∀ h, bH h → sDo 10 k2 (.ref 60 :: as) h (fun _ h' => bH h' ∧ h'.length ≤ h.length + 1)) (e1 : sDo 10 k1 (.ref 0 :: as) h (fun r h' => r = some x ∧ P h')) (e2 : ∀ h1, bH h1 → P h1 → sDo 10 k2 (.ref 60 :: as) h1 (fun r h' => r = some x ∧ bR5 h')) : sDo 10 k1 (.ref 0 :: as) h (fun r1 h1 => bH h1 ∧ h1.length ≤ h.length + 1 ∧ sDo 10 k2 (.ref 60 :: as) h1 (fun r2 h2 => bH h2 ∧ h2.length ≤ h1.length + 1 ∧ bR5 h2 ∧ ∃ x, r1 = some x ∧ r2 = some x)) := by
  refine sDo_mono (sDo_and (c1 h hH) e1) (fun r1 h1 q => ?_)
  obtain ⟨⟨q1, q2⟩, rfl, q3⟩ := q
  exact ⟨q1, q2, sDo_mono (sDo_and (c2 h1 q1) (e2 h1 q1 q3)) (fun r2 h2 z => ⟨z.1.1, z.1.2, z.2.2, x, rfl, z.2.1⟩)⟩
/-- refused: the class -/
def pRef (h h' : sHp) : Prop := ∃ R, h' = h.set 43 (.inl (0, 8, .inl R))
theorem pRef_4 {hd so sz co : Nat → Int32} {cl : Nat → Int64} {f g : Nat → Option Nat} {h h' : sHp} (q : pRef h h') (a : bR4 h hd so sz co cl f g) : bR4 h' hd so sz co cl f g := by
  obtain ⟨R, rfl⟩ := q
  exact bR4_set a (by decide) (by decide) (by decide)
theorem pRef_5 {h h' : sHp} (q : pRef h h') (a : bR5 h) : bR5 h' := by
  obtain ⟨R, rfl⟩ := q
  exact bR5_set a (by decide) (by decide) (by decide) (by decide) (by decide)
theorem s_noOut {d : Nat} {h : sHp} {s : Int32} (hs : ¬ (0 ≤ s.toInt ∧ s.toInt < 8)) : sDo (d + 2) 161 [.ref 0, .int s] h (fun r h' => h' = h ∧ r = some (.int (-1))) := by
  refine sDo_of (d := d + 1) (nL := 2) (L := [some (.ref 0), some (.int s)]) rfl rfl ?_
  refine g_iload_n (i := 1) rfl rfl ?_
  refine g_static1 (Qc := fun r h' => h' = h ∧ r = some (.int 0)) rfl (by decide) rfl (Nat.le_of_ble_eq_true rfl) (s_sh11 (by rw [if_neg hs])) (fun r h9 hq9 => ?_)
  obtain ⟨rfl, rfl⟩ := hq9
  refine g_if_ne 9 rfl rfl (fun hc => absurd hc (by decide)) (fun _ => ?_)
  refine g_iconst (n := (-1)) rfl ?_
  refine g_ireturn (ty := .int) rfl rfl rfl ?_
  exact ⟨rfl, rfl⟩
/-- what noRow says of a shelf -/
def nrOf (hd : Nat → Int32) (S : Nat) : Int32 := if hd S = 1 then 0 else if hd S = 2 then -2 else -3
theorem s_noIn {d : Nat} {h : sHp} {hd so sz co : Nat → Int32} {cl : Nat → Int64} {f g : Nat → Option Nat} {s : Int32} {S : Nat} {ot z : Int32} {el : Nat → Int64} (hH : bH h) (q4 : bR4 h hd so sz co cl f g) (hs : s.toInt = S) (hS : S < 8) (b1 : h[44 + 2 * S]? = some (.inr (7, [.int ot, .int z, .ref (45 + 2 * S)]))) (b3 : bSh hd so sz co cl g h S ot z el) : sDo (d + 2) 161 [.ref 0, .int s] h (fun r h' => h' = h ∧ r = some (.int (nrOf hd S))) := by
  refine s_noRow (el := el) hH q4 hs hS b1 ?_
  unfold nrOf
  rcases b3 with ⟨x1, x2, x3⟩ | ⟨x1, x2, x3, x4, -⟩ | ⟨x1, x2, pc, x3, x4, -⟩
  · exact Or.inr (Or.inl ⟨x2, x3, by rw [x1]; rfl⟩)
  · refine Or.inl ⟨x2, fun z => ?_, by rw [x1]; rfl⟩
    rw [z] at x4
    exact absurd x4 (by decide)
  · exact Or.inr (Or.inr ⟨pc, x4, by rw [x1]; rfl⟩)
/-- has -/
theorem s_has7 {d : Nat} {h : sHp} {p ep : Nat} {ot z i : Int32} {b : Int32} (hp : h[p]? = some (.inr (7, [.int ot, .int z, .ref ep]))) (hb : b = if 0 ≤ i.toInt ∧ i.toInt < z.toInt then 1 else 0) : sDo (d + 1) 82 [.ref p, .int i] h (fun r h' => h' = h ∧ r = some (.int b)) := by
  have e0 : (0 : Int32).toInt = 0 := rfl
  refine sDo_of (d := d) (nL := 2) (L := [some (.ref p), some (.int i)]) rfl rfl ?_
  refine g_iload_n (i := 1) rfl rfl ?_
  refine g_if_lt 16 rfl rfl (fun c1 => ?_) (fun c1 => ?_)
  · skip
    rw [i_lt, e0] at c1
    refine g_iconst (n := 0) rfl ?_
    refine g_ireturn (ty := .boolean) rfl rfl (by decide) ?_
    rw [hb, if_neg (by omega)]; exact ⟨rfl, rfl⟩
  · skip
    rw [i_lt, e0] at c1
    refine g_iload_n (i := 1) rfl rfl ?_
    refine g_aload_n (i := 0) rfl rfl ?_
    refine g_getfield (v := .int z) rfl hp (by decide) rfl ?_
    refine g_icmp_ge 16 rfl rfl (fun c2 => ?_) (fun c2 => ?_)
    · skip
      rw [i_le] at c2
      refine g_iconst (n := 0) rfl ?_
      refine g_ireturn (ty := .boolean) rfl rfl (by decide) ?_
      rw [hb, if_neg (by omega)]; exact ⟨rfl, rfl⟩
    · skip
      rw [i_le] at c2
      refine g_iconst (n := 1) rfl ?_
      refine g_goto 17 rfl rfl ?_
      refine g_ireturn (ty := .boolean) rfl rfl (by decide) ?_
      rw [hb, if_pos (by omega)]; exact ⟨rfl, rfl⟩
def nrw (ot : Int32) (v : Int64) : Int64 := if ot = 0 then v.toInt32.toInt8.toInt32.toInt64 else if ot = 1 then v.toInt32.toInt16.toInt32.toInt64 else if ot = 2 then v.toInt32.toInt64 else v
theorem s_narrow {d : Nat} {h : sHp} {p ep : Nat} {ot z : Int32} {v : Int64} (hp : h[p]? = some (.inr (7, [.int ot, .int z, .ref ep]))) : sDo (d + 1) 88 [.ref p, .long v] h (fun r h' => h' = h ∧ r = some (.long (nrw ot v))) := by
  refine sDo_of (d := d) (nL := 3) (L := [some (.ref p), some (.long v), none]) rfl rfl ?_
  refine g_aload_n (i := 0) rfl rfl ?_
  refine g_getfield (v := .int ot) rfl hp (by decide) rfl ?_
  have hF : sFk 88 4 = some (.tableswitch 42 0 2 #[28, 33, 38]) := rfl
  have i0 : (0 : Int32).toInt = 0 := rfl
  have i1 : (1 : Int32).toInt = 1 := rfl
  have i2 : (2 : Int32).toInt = 2 := rfl
  by_cases h0 : ot.toInt = 0
  · refine go_jmp (pc1 := 32) (st1 := []) hF rfl ?_ ?_
    · show (if ot.toInt < 0 ∨ 2 < ot.toInt then _ else (match #[(28 : Int), 33, 38][(ot.toInt - 0).toNat]? with
        | some off => (sTgt 4 off).map (fun t => (t, ([] : List Value)))
        | none => none)) = _
      rw [if_neg (by omega), show (ot.toInt - 0).toNat = 0 by omega]; rfl
    · skip
      refine g_lload_n (i := 1) rfl rfl ?_
      refine g_l2i rfl ?_
      refine g_i2b rfl ?_
      refine g_i2l rfl ?_
      refine g_lreturn rfl rfl ?_
      refine ⟨rfl, ?_⟩
      unfold nrw
      rw [if_pos (Int32.toInt_inj.mp (h0.trans i0.symm))]
  · have n0 : ¬ ot = 0 := fun z => h0 (by rw [z]; rfl)
    by_cases h1 : ot.toInt = 1
    · refine go_jmp (pc1 := 37) (st1 := []) hF rfl ?_ ?_
      · show (if ot.toInt < 0 ∨ 2 < ot.toInt then _ else (match #[(28 : Int), 33, 38][(ot.toInt - 0).toNat]? with
          | some off => (sTgt 4 off).map (fun t => (t, ([] : List Value)))
          | none => none)) = _
        rw [if_neg (by omega), show (ot.toInt - 0).toNat = 1 by omega]; rfl
      · skip
        refine g_lload_n (i := 1) rfl rfl ?_
        refine g_l2i rfl ?_
        refine g_i2s rfl ?_
        refine g_i2l rfl ?_
        refine g_lreturn rfl rfl ?_
        refine ⟨rfl, ?_⟩
        unfold nrw
        rw [if_neg n0, if_pos (Int32.toInt_inj.mp (h1.trans i1.symm))]
    · have n1 : ¬ ot = 1 := fun z => h1 (by rw [z]; rfl)
      by_cases h2 : ot.toInt = 2
      · refine go_jmp (pc1 := 42) (st1 := []) hF rfl ?_ ?_
        · show (if ot.toInt < 0 ∨ 2 < ot.toInt then _ else (match #[(28 : Int), 33, 38][(ot.toInt - 0).toNat]? with
            | some off => (sTgt 4 off).map (fun t => (t, ([] : List Value)))
            | none => none)) = _
          rw [if_neg (by omega), show (ot.toInt - 0).toNat = 2 by omega]; rfl
        · skip
          refine g_lload_n (i := 1) rfl rfl ?_
          refine g_l2i rfl ?_
          refine g_i2l rfl ?_
          refine g_lreturn rfl rfl ?_
          refine ⟨rfl, ?_⟩
          unfold nrw
          rw [if_neg n0, if_neg n1, if_pos (Int32.toInt_inj.mp (h2.trans i2.symm))]
      · have n2 : ¬ ot = 2 := fun z => h2 (by rw [z]; rfl)
        refine go_jmp (pc1 := 46) (st1 := []) hF rfl ?_ ?_
        · show (if ot.toInt < 0 ∨ 2 < ot.toInt then (sTgt 4 42).map (fun t => (t, ([] : List Value))) else _) = _
          rw [if_pos (by omega)]; rfl
        · skip
          refine g_lload_n (i := 1) rfl rfl ?_
          refine g_lreturn rfl rfl ?_
          refine ⟨rfl, ?_⟩
          unfold nrw
          rw [if_neg n0, if_neg n1, if_neg n2]
theorem s_putE {d : Nat} {h : sHp} {p ep : Nat} {ot z i : Int32} {el : Nat → Int64} {v : Int64} (hp : h[p]? = some (.inr (7, [.int ot, .int z, .ref ep]))) (he : h[ep]? = some (.inl (1, 100, .inr (.inl el)))) (z1 : z.toInt ≤ 100) (i0 : 0 ≤ i.toInt) (i1 : i.toInt < z.toInt) : sDo (d + 2) 86 [.ref p, .int i, .long v] h (fun r h' => r = none ∧ h' = h.set ep (.inl (1, 100, .inr (.inl (vp_updL el i.toNatClampNeg (nrw ot v)))))) := by
  refine sDo_of (d := d + 1) (nL := 4) (L := [some (.ref p), some (.int i), some (.long v), none]) rfl rfl ?_
  refine g_aload_n (i := 0) rfl rfl ?_
  refine g_iload_n (i := 1) rfl rfl ?_
  refine g_virt1 (Qc := fun r h' => h' = h ∧ r = some (.int 1)) rfl (by decide) rfl hp rfl (Nat.le_of_ble_eq_true rfl) (s_has7 hp (by rw [if_pos ⟨i0, i1⟩])) (fun r h9 hq9 => ?_)
  obtain ⟨rfl, rfl⟩ := hq9
  refine g_if_eq 19 rfl rfl (fun hc => absurd hc (by decide)) (fun _ => ?_)
  refine g_aload_n (i := 0) rfl rfl ?_
  refine g_getfield (v := .ref ep) rfl hp (by decide) rfl ?_
  refine g_iload_n (i := 1) rfl rfl ?_
  refine g_aload_n (i := 0) rfl rfl ?_
  refine g_lload_n (i := 2) rfl rfl ?_
  refine g_virt1 (Qc := fun r h' => h' = h9 ∧ r = some (.long (nrw ot v))) rfl (by decide) rfl hp rfl (Nat.le_of_ble_eq_true rfl) (s_narrow hp) (fun r h8 hq9 => ?_)
  obtain ⟨rfl, rfl⟩ := hq9
  refine g_lastore rfl he (i_in (by omega) (by omega)) rfl ?_
  refine g_return rfl rfl ?_
  exact ⟨rfl, rfl⟩
theorem s_set11_out {h : sHp} {s i : Int32} {v : Int64} (hH : bH h) (hs : ¬ (0 ≤ s.toInt ∧ s.toInt < 8)) : sDo 10 115 [.ref 0, .int s, .int i, .long v] h (fun r h' => r = some (.int (-1)) ∧ pRef h h') := by
  obtain ⟨fs, hf, -⟩ := bFldK hH (p := 0) (by decide) rfl
  refine sDo_of (d := 9) (nL := 6) (L := [some (.ref 0), some (.int s), some (.int i), some (.long v), none, none]) rfl rfl ?_
  refine g_aload_n (i := 0) rfl rfl ?_
  refine g_iload_n (i := 1) rfl rfl ?_
  refine g_virt1 (Qc := fun r h' => h' = h ∧ r = some (.int (-1))) rfl (by decide) rfl hf rfl (Nat.le_of_ble_eq_true rfl) (sDo_up (d := 2) (by decide) (s_noOut (d := 0) hs)) (fun r h9 hq9 => ?_)
  obtain ⟨rfl, rfl⟩ := hq9
  refine g_istore (i := 5) (L1 := [some (.ref 0), some (.int s), some (.int i), some (.long v), none, some (.int (-1))]) rfl (Nat.le_of_ble_eq_true rfl) rfl ?_
  refine g_iload (i := 5) rfl rfl ?_
  refine g_if_eq 19 rfl rfl (fun hc => absurd hc (by decide)) (fun _ => ?_)
  refine g_aload_n (i := 0) rfl rfl ?_
  refine g_iload (i := 5) rfl rfl ?_
  refine g_virt1 (Qc := fun r h' => r = some (.int (-1)) ∧ ∃ R, h' = h9.set 43 (.inl (0, 8, .inl R))) rfl (by decide) rfl hf rfl (Nat.le_of_ble_eq_true rfl) (sDo_up (d := 2) (by decide) (s_rfus (d := 0) hH (by decide) (by decide))) (fun r h8 hq9 => ?_)
  obtain ⟨rfl, hR⟩ := hq9
  refine g_ireturn (ty := .int) rfl rfl rfl ?_
  exact ⟨rfl, hR⟩
theorem s_set11_no {h : sHp} {hd so sz co : Nat → Int32} {cl : Nat → Int64} {f g : Nat → Option Nat} {s i : Int32} {S : Nat} {ot z : Int32} {el : Nat → Int64} {v : Int64} (hH : bH h) (q4 : bR4 h hd so sz co cl f g) (hs : s.toInt = S) (hS : S < 8) (b1 : h[44 + 2 * S]? = some (.inr (7, [.int ot, .int z, .ref (45 + 2 * S)]))) (b2 : h[45 + 2 * S]? = some (.inl (1, 100, .inr (.inl el)))) (b3 : bSh hd so sz co cl g h S ot z el) (hne : ¬ hd S = 1) : sDo 10 115 [.ref 0, .int s, .int i, .long v] h (fun r h' => r = some (.int (nrOf hd S)) ∧ pRef h h') := by
  obtain ⟨fs, hf, -⟩ := bFldK hH (p := 0) (by decide) rfl
  have hn : nrOf hd S = -2 ∨ nrOf hd S = -3 := by
    unfold nrOf
    rw [if_neg hne]
    split
    · exact Or.inl rfl
    · exact Or.inr rfl
  have k1 : -7 ≤ (nrOf hd S).toInt ∧ (nrOf hd S).toInt ≤ -1 ∧ ¬ nrOf hd S = 0 := by rcases hn with z | z <;> rw [z] <;> decide
  refine sDo_of (d := 9) (nL := 6) (L := [some (.ref 0), some (.int s), some (.int i), some (.long v), none, none]) rfl rfl ?_
  refine g_aload_n (i := 0) rfl rfl ?_
  refine g_iload_n (i := 1) rfl rfl ?_
  refine g_virt1 (Qc := fun r h' => h' = h ∧ r = some (.int (nrOf hd S))) rfl (by decide) rfl hf rfl (Nat.le_of_ble_eq_true rfl) (sDo_up (d := 2) (by decide) (s_noIn (d := 0) hH q4 hs hS b1 b3)) (fun r h9 hq9 => ?_)
  obtain ⟨rfl, rfl⟩ := hq9
  refine g_istore (i := 5) (L1 := [some (.ref 0), some (.int s), some (.int i), some (.long v), none, some (.int (nrOf hd S))]) rfl (Nat.le_of_ble_eq_true rfl) rfl ?_
  refine g_iload (i := 5) rfl rfl ?_
  refine g_if_eq 19 rfl rfl (fun hc => absurd hc (by exact k1.2.2)) (fun _ => ?_)
  refine g_aload_n (i := 0) rfl rfl ?_
  refine g_iload (i := 5) rfl rfl ?_
  refine g_virt1 (Qc := fun r h' => r = some (.int (nrOf hd S)) ∧ ∃ R, h' = h9.set 43 (.inl (0, 8, .inl R))) rfl (by decide) rfl hf rfl (Nat.le_of_ble_eq_true rfl) (sDo_up (d := 2) (by decide) (s_rfus (d := 0) hH k1.1 k1.2.1)) (fun r h8 hq9 => ?_)
  obtain ⟨rfl, hR⟩ := hq9
  refine g_ireturn (ty := .int) rfl rfl rfl ?_
  exact ⟨rfl, hR⟩
theorem s_set11_in {h : sHp} {hd so sz co : Nat → Int32} {cl : Nat → Int64} {f g : Nat → Option Nat} {s i : Int32} {S : Nat} {ot z : Int32} {el : Nat → Int64} {v : Int64} (hH : bH h) (q4 : bR4 h hd so sz co cl f g) (hs : s.toInt = S) (hS : S < 8) (b1 : h[44 + 2 * S]? = some (.inr (7, [.int ot, .int z, .ref (45 + 2 * S)]))) (b2 : h[45 + 2 * S]? = some (.inl (1, 100, .inr (.inl el)))) (b3 : bSh hd so sz co cl g h S ot z el) (h1 : hd S = 1) {x : Int32} {P : sHp → Prop} (hx : (¬ (0 ≤ i.toInt ∧ i.toInt < z.toInt) ∧ x = -5 ∧ P = pRef h) ∨ (0 ≤ i.toInt ∧ i.toInt < z.toInt ∧ x = 1 ∧ P = fun h' => h' = h.set (45 + 2 * S) (.inl (1, 100, .inr (.inl (vp_updL el i.toNatClampNeg (nrw ot v))))))) : sDo 10 115 [.ref 0, .int s, .int i, .long v] h (fun r h' => r = some (.int x) ∧ P h') := by
  have q4c := q4
  have hz : z.toInt ≤ 100 := by
    rcases b3 with ⟨y1, -⟩ | ⟨-, -, -, -, -, -, -, y8, -⟩ | ⟨y1, -⟩
    · rw [h1] at y1
      exact absurd y1 (by decide)
    · exact y8
    · rw [h1] at y1
      exact absurd y1 (by decide)
  have hn : nrOf hd S = 0 := by
    unfold nrOf
    rw [if_pos h1]
  obtain ⟨a1, a2, a3, a4, a5, a6, a7, a8⟩ := q4
  obtain ⟨fs, hf, -, hfs⟩ := bFldK hH (p := 0) (by decide) rfl
  obtain ⟨v0, f0, r0⟩ := hfs 0 _ rfl
  cases bT_one (by decide) (by decide +kernel) r0
  obtain ⟨v1, f1, r1⟩ := hfs 1 _ rfl
  cases bT_one (by decide) (by decide +kernel) r1
  have sn : s.toNatClampNeg = S := i_nat hs
  have fS : va_rf (f s.toNatClampNeg) = .ref (44 + 2 * S) := by rw [sn, a2 S hS]; rfl
  refine sDo_of (d := 9) (nL := 6) (L := [some (.ref 0), some (.int s), some (.int i), some (.long v), none, none]) rfl rfl ?_
  refine g_aload_n (i := 0) rfl rfl ?_
  refine g_iload_n (i := 1) rfl rfl ?_
  refine g_virt1 (Qc := fun r h' => h' = h ∧ r = some (.int 0)) rfl (by decide) rfl hf rfl (Nat.le_of_ble_eq_true rfl) (sDo_mono (sDo_up (d := 2) (by decide) (s_noIn (d := 0) hH q4c hs hS b1 b3)) (fun r h' q => by rw [← hn]; exact q)) (fun r h9 hq9 => ?_)
  obtain ⟨rfl, rfl⟩ := hq9
  refine g_istore (i := 5) (L1 := [some (.ref 0), some (.int s), some (.int i), some (.long v), none, some (.int 0)]) rfl (Nat.le_of_ble_eq_true rfl) rfl ?_
  refine g_iload (i := 5) rfl rfl ?_
  refine g_if_eq 19 rfl rfl (fun _ => ?_) (fun hc => absurd hc (by decide))
  refine g_aload_n (i := 0) rfl rfl ?_
  refine g_getfield (v := .ref 1) rfl hf (by decide) f0 ?_
  refine g_iload_n (i := 1) rfl rfl ?_
  refine g_aaload rfl a1 (by decide) (i_in (by omega) (by omega)) ?_
  rw [fS]
  refine g_iload_n (i := 2) rfl rfl ?_
  rcases hx with ⟨hi, rfl, rfl⟩ | ⟨i0, i1, rfl, rfl⟩
  · skip
    refine g_virt1 (Qc := fun r h' => h' = h9 ∧ r = some (.int 0)) rfl (by decide) rfl b1 rfl (Nat.le_of_ble_eq_true rfl) (s_has7 b1 (by rw [if_neg hi])) (fun r h8 hq9 => ?_)
    obtain ⟨rfl, rfl⟩ := hq9
    refine g_if_ne 39 rfl rfl (fun hc => absurd hc (by decide)) (fun _ => ?_)
    refine g_aload_n (i := 0) rfl rfl ?_
    refine g_bipush (n := (-5)) rfl ?_
    refine g_virt1 (Qc := fun r h' => r = some (.int (-5)) ∧ ∃ R, h' = h8.set 43 (.inl (0, 8, .inl R))) rfl (by decide) rfl hf rfl (Nat.le_of_ble_eq_true rfl) (sDo_up (d := 2) (by decide) (s_rfus (d := 0) hH (by decide) (by decide))) (fun r h7 hq9 => ?_)
    obtain ⟨rfl, hR⟩ := hq9
    refine g_ireturn (ty := .int) rfl rfl rfl ?_
    exact ⟨rfl, hR⟩
  · skip
    refine g_virt1 (Qc := fun r h' => h' = h9 ∧ r = some (.int 1)) rfl (by decide) rfl b1 rfl (Nat.le_of_ble_eq_true rfl) (s_has7 b1 (by rw [if_pos ⟨i0, i1⟩])) (fun r h8 hq9 => ?_)
    obtain ⟨rfl, rfl⟩ := hq9
    refine g_if_ne 39 rfl rfl (fun _ => ?_) (fun hc => absurd hc (by decide))
    refine g_aload_n (i := 0) rfl rfl ?_
    refine g_getfield (v := .ref 1) rfl hf (by decide) f0 ?_
    refine g_iload_n (i := 1) rfl rfl ?_
    refine g_aaload rfl a1 (by decide) (i_in (by omega) (by omega)) ?_
    rw [fS]
    refine g_iload_n (i := 2) rfl rfl ?_
    refine g_lload_n (i := 3) rfl rfl ?_
    refine g_virt2 (Qc := fun r h' => r = none ∧ h' = List.set h8 (45 + 2 * S) (.inl (1, 100, .inr (.inl (vp_updL el i.toNatClampNeg (nrw ot v)))))) rfl (by decide) rfl b1 rfl (Nat.le_of_ble_eq_true rfl) (sDo_up (d := 2) (by decide) (s_putE (d := 0) b1 b2 hz i0 i1)) (fun r h7 hq9 => ?_)
    obtain ⟨rfl, rfl⟩ := hq9
    refine g_iconst (n := 1) rfl ?_
    refine g_ireturn (ty := .int) rfl rfl rfl ?_
    exact ⟨rfl, rfl⟩
theorem s_set12_out {h : sHp} {s i : Int32} {v : Int64} (hH : bH h) (hR : bR5 h) (hs : ¬ (0 ≤ s.toInt ∧ s.toInt < 8)) : sDo 10 179 [.ref 60, .int s, .int i, .long v] h (fun r h' => r = some (.int (-1)) ∧ bR5 h') := by
  obtain ⟨fs, hf, -⟩ := bObj60 hH
  refine sDo_of (d := 9) (nL := 5) (L := [some (.ref 60), some (.int s), some (.int i), some (.long v), none]) rfl rfl ?_
  refine g_aload_n (i := 0) rfl rfl ?_
  refine g_iload_n (i := 1) rfl rfl ?_
  refine g_virt1 (Qc := fun r h' => h' = h ∧ r = some (.int 0)) rfl (by decide) rfl hf rfl (Nat.le_of_ble_eq_true rfl) (s_sh12 (by rw [if_neg hs])) (fun r h9 hq9 => ?_)
  obtain ⟨rfl, rfl⟩ := hq9
  refine g_if_ne 14 rfl rfl (fun hc => absurd hc (by decide)) (fun _ => ?_)
  refine g_aload_n (i := 0) rfl rfl ?_
  refine g_iconst (n := (-1)) rfl ?_
  refine g_virt1 (Qc := fun r h' => r = some (.int (-1)) ∧ ∃ R, h' = List.set h9 61 (.inl (0, 8, .inl R))) rfl (by decide) rfl hf rfl (Nat.le_of_ble_eq_true rfl) (sDo_up (d := 1) (by decide) (s_no (d := 0) hH (by decide) (by decide))) (fun r h8 hq9 => ?_)
  obtain ⟨rfl, R, rfl⟩ := hq9
  refine g_ireturn (ty := .int) rfl rfl rfl ?_
  exact ⟨rfl, no_R hR⟩
theorem s_set12_in {h : sHp} {hd so sz co : Nat → Int32} {cl : Nat → Int64} {f g : Nat → Option Nat} {s i : Int32} {S : Nat} {v : Int64} (hH : bH h) (q4 : bR4 h hd so sz co cl f g) (hs : s.toInt = S) (hS : S < 8) {x : Int32} (hx : (hd S = 2 ∧ x = -2 ∧ bR5 h) ∨ (hd S = 0 ∧ x = -3 ∧ bR5 h) ∨ (hd S = 1 ∧ ¬ (0 ≤ i.toInt ∧ i.toInt < (sz S).toInt) ∧ x = -5 ∧ bR5 h) ∨ (hd S = 1 ∧ 0 ≤ i.toInt ∧ i.toInt < (sz S).toInt ∧ (sz S).toInt ≤ 100 ∧ x = 1 ∧ bR5 (h.set 71 (.inl (1, 800, .inr (.inl (vp_updL cl (100 * S + i.toNatClampNeg) (nrw (so S) v)))))))) : sDo 10 179 [.ref 60, .int s, .int i, .long v] h (fun r h' => r = some (.int x) ∧ bR5 h') := by
  obtain ⟨a1, a2, a3, a4, a5, a6, a7, a8⟩ := q4
  obtain ⟨fs, hf, -⟩ := bObj60 hH
  obtain ⟨w14, f14, r14⟩ := bF60 hH hf (j := 14) (ty := .inr (2, 67)) (by decide +kernel)
  cases bT_one (by decide) (by decide +kernel) r14
  obtain ⟨w15, f15, r15⟩ := bF60 hH hf (j := 15) (ty := .inr (2, 68)) (by decide +kernel)
  cases bT_one (by decide) (by decide +kernel) r15
  obtain ⟨w16, f16, r16⟩ := bF60 hH hf (j := 16) (ty := .inr (2, 69)) (by decide +kernel)
  cases bT_one (by decide) (by decide +kernel) r16
  obtain ⟨w17, f17, r17⟩ := bF60 hH hf (j := 17) (ty := .inr (2, 70)) (by decide +kernel)
  cases bT_one (by decide) (by decide +kernel) r17
  obtain ⟨w18, f18, r18⟩ := bF60 hH hf (j := 18) (ty := .inr (2, 71)) (by decide +kernel)
  cases bT_one (by decide) (by decide +kernel) r18
  have sn : s.toNatClampNeg = S := i_nat hs
  have e0 : (0 : Int32).toInt = 0 := rfl
  have e100 : (Int8.ofInt 100).toInt32.toInt = 100 := rfl
  refine sDo_of (d := 9) (nL := 5) (L := [some (.ref 60), some (.int s), some (.int i), some (.long v), none]) rfl rfl ?_
  refine g_aload_n (i := 0) rfl rfl ?_
  refine g_iload_n (i := 1) rfl rfl ?_
  refine g_virt1 (Qc := fun r h' => h' = h ∧ r = some (.int 1)) rfl (by decide) rfl hf rfl (Nat.le_of_ble_eq_true rfl) (s_sh12 (by rw [if_pos (by omega)])) (fun r h9 hq9 => ?_)
  obtain ⟨rfl, rfl⟩ := hq9
  refine g_if_ne 14 rfl rfl (fun _ => ?_) (fun hc => absurd hc (by decide))
  refine g_aload_n (i := 0) rfl rfl ?_
  refine g_getfield (v := .ref 67) rfl hf (by decide) f14 ?_
  refine g_iload_n (i := 1) rfl rfl ?_
  refine g_ialv (n := 8) (f := hd) (v := hd S) rfl a4 (i_in (by omega) (by omega)) (congrArg hd sn) ?_
  refine g_iconst (n := 2) rfl ?_
  rcases hx with ⟨y1, rfl, hR⟩ | ⟨y1, rfl, hR⟩ | ⟨y1, hi, rfl, hR⟩ | ⟨y1, i0, i1, i2, rfl, hR2⟩
  · skip
    refine g_icmp_ne 31 rfl rfl (fun hc => absurd hc (by exact fun z => z y1)) (fun _ => ?_)
    refine g_aload_n (i := 0) rfl rfl ?_
    refine g_bipush (n := (-2)) rfl ?_
    refine g_virt1 (Qc := fun r h' => r = some (.int (-2)) ∧ ∃ R, h' = List.set h9 61 (.inl (0, 8, .inl R))) rfl (by decide) rfl hf rfl (Nat.le_of_ble_eq_true rfl) (sDo_up (d := 1) (by decide) (s_no (d := 0) hH (by decide) (by decide))) (fun r h8 hq9 => ?_)
    obtain ⟨rfl, R, rfl⟩ := hq9
    refine g_ireturn (ty := .int) rfl rfl rfl ?_
    exact ⟨rfl, no_R hR⟩
  · skip
    refine g_icmp_ne 31 rfl rfl (fun _ => ?_) (fun hc => absurd hc (by rw [y1]; decide))
    refine g_aload_n (i := 0) rfl rfl ?_
    refine g_getfield (v := .ref 67) rfl hf (by decide) f14 ?_
    refine g_iload_n (i := 1) rfl rfl ?_
    refine g_ialv (n := 8) (f := hd) (v := hd S) rfl a4 (i_in (by omega) (by omega)) (congrArg hd sn) ?_
    refine g_if_ne 47 rfl rfl (fun hc => absurd hc (by exact fun z => z y1)) (fun _ => ?_)
    refine g_aload_n (i := 0) rfl rfl ?_
    refine g_bipush (n := (-3)) rfl ?_
    refine g_virt1 (Qc := fun r h' => r = some (.int (-3)) ∧ ∃ R, h' = List.set h9 61 (.inl (0, 8, .inl R))) rfl (by decide) rfl hf rfl (Nat.le_of_ble_eq_true rfl) (sDo_up (d := 1) (by decide) (s_no (d := 0) hH (by decide) (by decide))) (fun r h8 hq9 => ?_)
    obtain ⟨rfl, R, rfl⟩ := hq9
    refine g_ireturn (ty := .int) rfl rfl rfl ?_
    exact ⟨rfl, no_R hR⟩
  · skip
    refine g_icmp_ne 31 rfl rfl (fun _ => ?_) (fun hc => absurd hc (by rw [y1]; decide))
    refine g_aload_n (i := 0) rfl rfl ?_
    refine g_getfield (v := .ref 67) rfl hf (by decide) f14 ?_
    refine g_iload_n (i := 1) rfl rfl ?_
    refine g_ialv (n := 8) (f := hd) (v := hd S) rfl a4 (i_in (by omega) (by omega)) (congrArg hd sn) ?_
    refine g_if_ne 47 rfl rfl (fun _ => ?_) (fun hc => absurd hc (by rw [y1]; decide))
    refine g_iload_n (i := 2) rfl rfl ?_
    refine g_if_lt 61 rfl rfl (fun c1 => ?_) (fun c1 => ?_)
    · skip
      refine g_aload_n (i := 0) rfl rfl ?_
      refine g_bipush (n := (-5)) rfl ?_
      refine g_virt1 (Qc := fun r h' => r = some (.int (-5)) ∧ ∃ R, h' = List.set h9 61 (.inl (0, 8, .inl R))) rfl (by decide) rfl hf rfl (Nat.le_of_ble_eq_true rfl) (sDo_up (d := 1) (by decide) (s_no (d := 0) hH (by decide) (by decide))) (fun r h8 hq9 => ?_)
      obtain ⟨rfl, R, rfl⟩ := hq9
      refine g_ireturn (ty := .int) rfl rfl rfl ?_
      exact ⟨rfl, no_R hR⟩
    · skip
      rw [i_lt, e0] at c1
      refine g_iload_n (i := 2) rfl rfl ?_
      refine g_aload_n (i := 0) rfl rfl ?_
      refine g_getfield (v := .ref 69) rfl hf (by decide) f16 ?_
      refine g_iload_n (i := 1) rfl rfl ?_
      refine g_ialv (n := 8) (f := sz) (v := sz S) rfl a6 (i_in (by omega) (by omega)) (congrArg sz sn) ?_
      refine g_icmp_lt 68 rfl rfl (fun hc => absurd hc (by rw [i_lt]; omega)) (fun _ => ?_)
      refine g_aload_n (i := 0) rfl rfl ?_
      refine g_bipush (n := (-5)) rfl ?_
      refine g_virt1 (Qc := fun r h' => r = some (.int (-5)) ∧ ∃ R, h' = List.set h9 61 (.inl (0, 8, .inl R))) rfl (by decide) rfl hf rfl (Nat.le_of_ble_eq_true rfl) (sDo_up (d := 1) (by decide) (s_no (d := 0) hH (by decide) (by decide))) (fun r h8 hq9 => ?_)
      obtain ⟨rfl, R, rfl⟩ := hq9
      refine g_ireturn (ty := .int) rfl rfl rfl ?_
      exact ⟨rfl, no_R hR⟩
  · skip
    refine g_icmp_ne 31 rfl rfl (fun _ => ?_) (fun hc => absurd hc (by rw [y1]; decide))
    refine g_aload_n (i := 0) rfl rfl ?_
    refine g_getfield (v := .ref 67) rfl hf (by decide) f14 ?_
    refine g_iload_n (i := 1) rfl rfl ?_
    refine g_ialv (n := 8) (f := hd) (v := hd S) rfl a4 (i_in (by omega) (by omega)) (congrArg hd sn) ?_
    refine g_if_ne 47 rfl rfl (fun _ => ?_) (fun hc => absurd hc (by rw [y1]; decide))
    refine g_iload_n (i := 2) rfl rfl ?_
    refine g_if_lt 61 rfl rfl (fun hc => absurd hc (by rw [i_lt, e0]; omega)) (fun _ => ?_)
    refine g_iload_n (i := 2) rfl rfl ?_
    refine g_aload_n (i := 0) rfl rfl ?_
    refine g_getfield (v := .ref 69) rfl hf (by decide) f16 ?_
    refine g_iload_n (i := 1) rfl rfl ?_
    refine g_ialv (n := 8) (f := sz) (v := sz S) rfl a6 (i_in (by omega) (by omega)) (congrArg sz sn) ?_
    refine g_icmp_lt 68 rfl rfl (fun _ => ?_) (fun hc => absurd hc (by rw [i_lt]; omega))
    have in_ : (i.toNatClampNeg : Int) = i.toInt := by
      show ((i.toInt.toNat : Nat) : Int) = i.toInt
      omega
    have m1 : ((Int8.ofInt 100).toInt32 * s).toInt = 100 * S := by rw [i_mul (by rw [e100]; omega) (by rw [e100]; omega), e100, hs]
    have m2 : ((Int8.ofInt 100).toInt32 * s + i).toInt = ((100 * S + i.toNatClampNeg : Nat) : Int) := by rw [i_add (by rw [m1]; omega) (by rw [m1]; omega), m1]; omega
    refine g_aload_n (i := 0) rfl rfl ?_
    refine g_getfield (v := .ref 71) rfl hf (by decide) f18 ?_
    refine g_bipush (n := 100) rfl ?_
    refine g_iload_n (i := 1) rfl rfl ?_
    refine g_imul rfl ?_
    refine g_iload_n (i := 2) rfl rfl ?_
    refine g_iadd rfl ?_
    refine g_aload_n (i := 0) rfl rfl ?_
    refine g_getfield (v := .ref 68) rfl hf (by decide) f15 ?_
    refine g_iload_n (i := 1) rfl rfl ?_
    refine g_ialv (n := 8) (f := so) (v := so S) rfl a5 (i_in (by omega) (by omega)) (congrArg so sn) ?_
    refine g_if_ne 94 rfl rfl (fun c3 => ?_) (fun c3 => ?_)
    · skip
      refine g_aload_n (i := 0) rfl rfl ?_
      refine g_getfield (v := .ref 68) rfl hf (by decide) f15 ?_
      refine g_iload_n (i := 1) rfl rfl ?_
      refine g_ialv (n := 8) (f := so) (v := so S) rfl a5 (i_in (by omega) (by omega)) (congrArg so sn) ?_
      refine g_iconst (n := 1) rfl ?_
      refine g_icmp_ne 111 rfl rfl (fun c4 => ?_) (fun c4 => ?_)
      · skip
        refine g_aload_n (i := 0) rfl rfl ?_
        refine g_getfield (v := .ref 68) rfl hf (by decide) f15 ?_
        refine g_iload_n (i := 1) rfl rfl ?_
        refine g_ialv (n := 8) (f := so) (v := so S) rfl a5 (i_in (by omega) (by omega)) (congrArg so sn) ?_
        refine g_iconst (n := 2) rfl ?_
        refine g_icmp_ne 127 rfl rfl (fun c5 => ?_) (fun c5 => ?_)
        · skip
          refine g_lload_n (i := 3) rfl rfl ?_
          refine g_lastore (h1 := h9.set 71 (.inl (1, 800, .inr (.inl (vp_updL cl (100 * S + i.toNatClampNeg) (nrw (so S) v)))))) rfl a8 (i_in (by omega) (by omega)) (by rw [i_nat m2]; unfold nrw; rw [if_neg c3, if_neg (show ¬ so S = 1 from c4), if_neg (show ¬ so S = 2 from c5)]) ?_
          refine g_iconst (n := 1) rfl ?_
          refine g_ireturn (ty := .int) rfl rfl rfl ?_
          exact ⟨rfl, hR2⟩
        · skip
          refine g_lload_n (i := 3) rfl rfl ?_
          refine g_l2i rfl ?_
          refine g_i2l rfl ?_
          refine g_goto 128 rfl rfl ?_
          refine g_lastore (h1 := h9.set 71 (.inl (1, 800, .inr (.inl (vp_updL cl (100 * S + i.toNatClampNeg) (nrw (so S) v)))))) rfl a8 (i_in (by omega) (by omega)) (by rw [i_nat m2]; unfold nrw; rw [if_neg c3, if_neg (show ¬ so S = 1 from c4), if_pos (show so S = 2 from c5)]) ?_
          refine g_iconst (n := 1) rfl ?_
          refine g_ireturn (ty := .int) rfl rfl rfl ?_
          exact ⟨rfl, hR2⟩
      · skip
        refine g_lload_n (i := 3) rfl rfl ?_
        refine g_l2i rfl ?_
        refine g_i2s rfl ?_
        refine g_i2l rfl ?_
        refine g_goto 128 rfl rfl ?_
        refine g_lastore (h1 := h9.set 71 (.inl (1, 800, .inr (.inl (vp_updL cl (100 * S + i.toNatClampNeg) (nrw (so S) v)))))) rfl a8 (i_in (by omega) (by omega)) (by rw [i_nat m2]; unfold nrw; rw [if_neg c3, if_pos (show so S = 1 from c4)]) ?_
        refine g_iconst (n := 1) rfl ?_
        refine g_ireturn (ty := .int) rfl rfl rfl ?_
        exact ⟨rfl, hR2⟩
    · skip
      refine g_lload_n (i := 3) rfl rfl ?_
      refine g_l2i rfl ?_
      refine g_i2b rfl ?_
      refine g_i2l rfl ?_
      refine g_goto 128 rfl rfl ?_
      refine g_lastore (h1 := h9.set 71 (.inl (1, 800, .inr (.inl (vp_updL cl (100 * S + i.toNatClampNeg) (nrw (so S) v)))))) rfl a8 (i_in (by omega) (by omega)) (by rw [i_nat m2]; unfold nrw; rw [if_pos c3]) ?_
      refine g_iconst (n := 1) rfl ?_
      refine g_ireturn (ty := .int) rfl rfl rfl ?_
      exact ⟨rfl, hR2⟩
theorem el_put {hd so sz co : Nat → Int32} {cl : Nat → Int64} {f g : Nat → Option Nat} {h : sHp} {S I : Nat} {ot z : Int32} {el : Nat → Int64} {w : Int64} (q4 : bR4 h hd so sz co cl f g) (q5 : ∀ s, s < 8 → bRS hd so sz co cl g h s) (hS : S < 8) (b1 : h[44 + 2 * S]? = some (.inr (7, [.int ot, .int z, .ref (45 + 2 * S)]))) (b2 : h[45 + 2 * S]? = some (.inl (1, 100, .inr (.inl el)))) (hI : I < 100) (b3 : bSh hd so sz co cl g h S ot z el) : bR5 ((h.set (45 + 2 * S) (.inl (1, 100, .inr (.inl (vp_updL el I w))))).set 71 (.inl (1, 800, .inr (.inl (vp_updL cl (100 * S + I) w))))) := by
  obtain ⟨a1, a2, a3, a4, a5, a6, a7, a8⟩ := q4
  refine ⟨hd, so, sz, co, vp_updL cl (100 * S + I) w, f, g, ⟨by rw [s_set_ne (by decide), s_set_ne (by omega)]; exact a1, a2, by rw [s_set_ne (by decide), s_set_ne (by omega)]; exact a3, by rw [s_set_ne (by decide), s_set_ne (by omega)]; exact a4, by rw [s_set_ne (by decide), s_set_ne (by omega)]; exact a5, by rw [s_set_ne (by decide), s_set_ne (by omega)]; exact a6, by rw [s_set_ne (by decide), s_set_ne (by omega)]; exact a7, s_set_eq (by rw [s_set_ne (by omega)]; exact a8)⟩, fun t ht => ?_⟩
  by_cases e : t = S
  · subst e
    refine ⟨ot, z, vp_updL el I w, by rw [s_set_ne (by omega), s_set_ne (by omega)]; exact b1, by rw [s_set_ne (by omega)]; exact s_set_eq b2, ?_⟩
    rcases bSh_set (p := 71) (c := .inl (1, 800, .inr (.inl (vp_updL cl (100 * t + I) w)))) (bSh_set (p := 45 + 2 * t) (c := .inl (1, 100, .inr (.inl (vp_updL el I w)))) b3 (by omega)) (by decide) with x | ⟨x1, x2, x3, x4, x5, x6, x7, x8, x9⟩ | x
    · exact Or.inl x
    · refine Or.inr (Or.inl ⟨x1, x2, x3, x4, x5, x6, x7, x8, fun i hi => ?_⟩)
      unfold vp_updL
      by_cases ei : i = I
      · rw [if_pos ei, if_pos (by omega)]
      · rw [if_neg ei, if_neg (by omega)]
        exact x9 i hi
    · exact Or.inr (Or.inr x)
  · obtain ⟨ot', z', el', r1, r2, r3⟩ := bRS_set (p := 71) (c := .inl (1, 800, .inr (.inl (vp_updL cl (100 * S + I) w)))) (bRS_set (p := 45 + 2 * S) (c := .inl (1, 100, .inr (.inl (vp_updL el I w)))) (q5 t ht) (by omega) (by omega) (by omega)) (by decide) (by omega) (by omega)
    refine ⟨ot', z', el', r1, r2, ?_⟩
    rcases r3 with x | ⟨x1, x2, x3, x4, x5, x6, x7, x8, x9⟩ | x
    · exact Or.inl x
    · refine Or.inr (Or.inl ⟨x1, x2, x3, x4, x5, x6, x7, x8, fun i hi => ?_⟩)
      unfold vp_updL
      rw [if_neg (by omega)]
      exact x9 i hi
    · exact Or.inr (Or.inr x)
theorem pr_set (s i : Int32) (v : Int64) : bPair 115 179 [.int s, .int i, .long v] := by
  have c1 : ∀ h, bH h → sDo 10 115 (.ref 0 :: [.int s, .int i, .long v]) h (fun _ h' => bH h' ∧ h'.length ≤ h.length + 1) := fun h hH => pr_use ch_X11_set_0 (by decide +kernel) (by decide +kernel) rfl hH ⟨bt0 hH, vI0 s, vI0 i, vL0 v, trivial⟩
  have c2 : ∀ h, bH h → sDo 10 179 (.ref 60 :: [.int s, .int i, .long v]) h (fun _ h' => bH h' ∧ h'.length ≤ h.length + 1) := fun h hH => pr_use ch_X12_set_0 (by decide +kernel) (by decide +kernel) rfl hH ⟨bt60 hH, vI0 s, vI0 i, vL0 v, trivial⟩
  intro h hH hR
  by_cases hs : 0 ≤ s.toInt ∧ s.toInt < 8
  · obtain ⟨hd, so, sz, co, cl, f, g, q4, q5⟩ := hR
    have hR : bR5 h := ⟨hd, so, sz, co, cl, f, g, q4, q5⟩
    obtain ⟨S, hS⟩ : ∃ S : Nat, s.toInt = S := ⟨s.toInt.toNat, by omega⟩
    have hS8 : S < 8 := by omega
    obtain ⟨ot, z, el, b1, b2, b3⟩ := q5 S hS8
    have b3c := b3
    rcases b3 with ⟨x1, x2, x3⟩ | ⟨x1, x2, x3, x4, x5, x6, x7, x8, x9⟩ | ⟨x1, x2, pc, x3, x4, x5⟩
    · refine pair_case hH c1 c2 (s_set11_no hH q4 hS hS8 b1 b2 b3c (by rw [x1]; decide)) (fun h1 hH1 hP => s_set12_in hH1 (pRef_4 hP q4) hS hS8 (Or.inr (Or.inl ⟨x1, ?_, pRef_5 hP hR⟩)))
      unfold nrOf
      rw [x1]; rfl
    · by_cases hi : 0 ≤ i.toInt ∧ i.toInt < z.toInt
      · have in_ : (i.toNatClampNeg : Int) = i.toInt := by
          show ((i.toInt.toNat : Nat) : Int) = i.toInt
          omega
        refine pair_case hH c1 c2 (s_set11_in hH q4 hS hS8 b1 b2 b3c x1 (Or.inr ⟨hi.1, hi.2, rfl, rfl⟩)) (fun h1 hH1 hP => ?_)
        subst hP
        refine s_set12_in hH1 (bR4_set q4 (by omega) (by omega) (by omega)) hS hS8 (Or.inr (Or.inr (Or.inr ⟨x1, hi.1, by rw [← x6]; exact hi.2, by rw [← x6]; exact x8, rfl, ?_⟩)))
        rw [← x3]
        exact el_put q4 q5 hS8 b1 b2 (by omega) b3c
      · exact pair_case hH c1 c2 (s_set11_in hH q4 hS hS8 b1 b2 b3c x1 (Or.inl ⟨hi, rfl, rfl⟩)) (fun h1 hH1 hP => s_set12_in hH1 (pRef_4 hP q4) hS hS8 (Or.inr (Or.inr (Or.inl ⟨x1, by rw [← x6]; exact hi, rfl, pRef_5 hP hR⟩))))
    · refine pair_case hH c1 c2 (s_set11_no hH q4 hS hS8 b1 b2 b3c (by rw [x1]; decide)) (fun h1 hH1 hP => s_set12_in hH1 (pRef_4 hP q4) hS hS8 (Or.inl ⟨x1, ?_, pRef_5 hP hR⟩))
      unfold nrOf
      rw [x1]; rfl
  · exact pair_case hH c1 c2 (s_set11_out hH hs) (fun h1 hH1 hP => s_set12_out hH1 (pRef_5 hP hR) hs)
end
section
/-! ===== pairs: element, holds, cut ===== -/
theorem s_at7 {d : Nat} {h : sHp} {p ep : Nat} {ot z i : Int32} {el : Nat → Int64} {w : Int64} (hp : h[p]? = some (.inr (7, [.int ot, .int z, .ref ep]))) (he : h[ep]? = some (.inl (1, 100, .inr (.inl el)))) (z1 : z.toInt ≤ 100) (hw : w = if 0 ≤ i.toInt ∧ i.toInt < z.toInt then el i.toNatClampNeg else 0) : sDo (d + 2) 84 [.ref p, .int i] h (fun r h' => h' = h ∧ r = some (.long w)) := by
  refine sDo_of (d := d + 1) (nL := 2) (L := [some (.ref p), some (.int i)]) rfl rfl ?_
  refine g_aload_n (i := 0) rfl rfl ?_
  refine g_iload_n (i := 1) rfl rfl ?_
  by_cases hi : 0 ≤ i.toInt ∧ i.toInt < z.toInt
  · skip
    refine g_virt1 (Qc := fun r h' => h' = h ∧ r = some (.int 1)) rfl (by decide) rfl hp rfl (Nat.le_of_ble_eq_true rfl) (s_has7 hp (by rw [if_pos hi])) (fun r h9 hq9 => ?_)
    obtain ⟨rfl, rfl⟩ := hq9
    refine g_if_eq 17 rfl rfl (fun hc => absurd hc (by decide)) (fun _ => ?_)
    refine g_aload_n (i := 0) rfl rfl ?_
    refine g_getfield (v := .ref ep) rfl hp (by decide) rfl ?_
    refine g_iload_n (i := 1) rfl rfl ?_
    refine g_laload (n := 100) (f := el) rfl he (by exact i_in (by omega) (by omega)) ?_
    refine g_goto 18 rfl rfl ?_
    refine g_lreturn rfl rfl ?_
    rw [hw, if_pos hi]; exact ⟨rfl, rfl⟩
  · skip
    refine g_virt1 (Qc := fun r h' => h' = h ∧ r = some (.int 0)) rfl (by decide) rfl hp rfl (Nat.le_of_ble_eq_true rfl) (s_has7 hp (by rw [if_neg hi])) (fun r h9 hq9 => ?_)
    obtain ⟨rfl, rfl⟩ := hq9
    refine g_if_eq 17 rfl rfl (fun _ => ?_) (fun hc => absurd hc (by decide))
    refine g_lconst (n := 0) rfl ?_
    refine g_lreturn rfl rfl ?_
    rw [hw, if_neg hi]; exact ⟨rfl, rfl⟩
theorem s_el11_no {h : sHp} {s i nr : Int32} (hH : bH h) (hn : ¬ nr = 0) (hc : sDo 2 161 [.ref 0, .int s] h (fun r h' => h' = h ∧ r = some (.int nr))) : sDo 10 117 [.ref 0, .int s, .int i] h (fun r h' => r = some (.long 0) ∧ h' = h) := by
  obtain ⟨fs, hf, -⟩ := bFldK hH (p := 0) (by decide) rfl
  refine sDo_of (d := 9) (nL := 3) (L := [some (.ref 0), some (.int s), some (.int i)]) rfl rfl ?_
  refine g_aload_n (i := 0) rfl rfl ?_
  refine g_iload_n (i := 1) rfl rfl ?_
  refine g_virt1 (Qc := fun r h' => h' = h ∧ r = some (.int nr)) rfl (by decide) rfl hf rfl (Nat.le_of_ble_eq_true rfl) (sDo_up (d := 2) (by decide) hc) (fun r h9 hq9 => ?_)
  obtain ⟨rfl, rfl⟩ := hq9
  refine g_if_ne 21 rfl rfl (fun _ => ?_) (fun hc => absurd hc (by exact hn))
  refine g_lconst (n := 0) rfl ?_
  refine g_lreturn rfl rfl ?_
  exact ⟨rfl, rfl⟩
theorem s_el11_in {h : sHp} {hd so sz co : Nat → Int32} {cl : Nat → Int64} {f g : Nat → Option Nat} {s i : Int32} {S : Nat} {ot z : Int32} {el : Nat → Int64} (hH : bH h) (q4 : bR4 h hd so sz co cl f g) (hs : s.toInt = S) (hS : S < 8) (b1 : h[44 + 2 * S]? = some (.inr (7, [.int ot, .int z, .ref (45 + 2 * S)]))) (b2 : h[45 + 2 * S]? = some (.inl (1, 100, .inr (.inl el)))) (b3 : bSh hd so sz co cl g h S ot z el) (h1 : hd S = 1) {w : Int64} (hw : w = if 0 ≤ i.toInt ∧ i.toInt < z.toInt then el i.toNatClampNeg else 0) : sDo 10 117 [.ref 0, .int s, .int i] h (fun r h' => r = some (.long w) ∧ h' = h) := by
  have q4c := q4
  have hz : z.toInt ≤ 100 := by
    rcases b3 with ⟨y1, -⟩ | ⟨-, -, -, -, -, -, -, y8, -⟩ | ⟨y1, -⟩
    · rw [h1] at y1
      exact absurd y1 (by decide)
    · exact y8
    · rw [h1] at y1
      exact absurd y1 (by decide)
  have hn : nrOf hd S = 0 := by
    unfold nrOf
    rw [if_pos h1]
  obtain ⟨a1, a2, a3, a4, a5, a6, a7, a8⟩ := q4
  obtain ⟨fs, hf, -, hfs⟩ := bFldK hH (p := 0) (by decide) rfl
  obtain ⟨v0, f0, r0⟩ := hfs 0 _ rfl
  cases bT_one (by decide) (by decide +kernel) r0
  obtain ⟨v1, f1, r1⟩ := hfs 1 _ rfl
  cases bT_one (by decide) (by decide +kernel) r1
  have sn : s.toNatClampNeg = S := i_nat hs
  have fS : va_rf (f s.toNatClampNeg) = .ref (44 + 2 * S) := by rw [sn, a2 S hS]; rfl
  refine sDo_of (d := 9) (nL := 3) (L := [some (.ref 0), some (.int s), some (.int i)]) rfl rfl ?_
  refine g_aload_n (i := 0) rfl rfl ?_
  refine g_iload_n (i := 1) rfl rfl ?_
  refine g_virt1 (Qc := fun r h' => h' = h ∧ r = some (.int 0)) rfl (by decide) rfl hf rfl (Nat.le_of_ble_eq_true rfl) (sDo_mono (sDo_up (d := 2) (by decide) (s_noIn (d := 0) hH q4c hs hS b1 b3)) (fun r h' q => by rw [← hn]; exact q)) (fun r h9 hq9 => ?_)
  obtain ⟨rfl, rfl⟩ := hq9
  refine g_if_ne 21 rfl rfl (fun hc => absurd hc (by decide)) (fun _ => ?_)
  refine g_aload_n (i := 0) rfl rfl ?_
  refine g_getfield (v := .ref 1) rfl hf (by decide) f0 ?_
  refine g_iload_n (i := 1) rfl rfl ?_
  refine g_aaload rfl a1 (by decide) (i_in (by omega) (by omega)) ?_
  rw [fS]
  refine g_iload_n (i := 2) rfl rfl ?_
  refine g_virt1 (Qc := fun r h' => h' = h9 ∧ r = some (.long w)) rfl (by decide) rfl b1 rfl (Nat.le_of_ble_eq_true rfl) (sDo_up (d := 2) (by decide) (s_at7 (d := 0) b1 b2 hz hw)) (fun r h8 hq9 => ?_)
  obtain ⟨rfl, rfl⟩ := hq9
  refine g_goto 22 rfl rfl ?_
  refine g_lreturn rfl rfl ?_
  exact ⟨rfl, rfl⟩
theorem s_el12_out {h : sHp} {s i : Int32} (hH : bH h) (hR : bR5 h) (hs : ¬ (0 ≤ s.toInt ∧ s.toInt < 8)) : sDo 10 181 [.ref 60, .int s, .int i] h (fun r h' => r = some (.long 0) ∧ bR5 h') := by
  obtain ⟨fs, hf, -⟩ := bObj60 hH
  refine sDo_of (d := 9) (nL := 3) (L := [some (.ref 60), some (.int s), some (.int i)]) rfl rfl ?_
  refine g_aload_n (i := 0) rfl rfl ?_
  refine g_iload_n (i := 1) rfl rfl ?_
  refine g_virt1 (Qc := fun r h' => h' = h ∧ r = some (.int 0)) rfl (by decide) rfl hf rfl (Nat.le_of_ble_eq_true rfl) (s_sh12 (by rw [if_neg hs])) (fun r h9 hq9 => ?_)
  obtain ⟨rfl, rfl⟩ := hq9
  refine g_if_eq 46 rfl rfl (fun _ => ?_) (fun hc => absurd hc (by decide))
  refine g_lconst (n := 0) rfl ?_
  refine g_lreturn rfl rfl ?_
  exact ⟨rfl, hR⟩
theorem s_el12_in {h : sHp} {hd so sz co : Nat → Int32} {cl : Nat → Int64} {f g : Nat → Option Nat} {s i : Int32} {S : Nat} (hH : bH h) (q4 : bR4 h hd so sz co cl f g) (hR : bR5 h) (hs : s.toInt = S) (hS : S < 8) (hz : hd S = 1 → (sz S).toInt ≤ 100) {w : Int64} (hw : w = if hd S = 1 ∧ 0 ≤ i.toInt ∧ i.toInt < (sz S).toInt then cl (100 * S + i.toNatClampNeg) else 0) : sDo 10 181 [.ref 60, .int s, .int i] h (fun r h' => r = some (.long w) ∧ bR5 h') := by
  obtain ⟨a1, a2, a3, a4, a5, a6, a7, a8⟩ := q4
  obtain ⟨fs, hf, -⟩ := bObj60 hH
  obtain ⟨w14, f14, r14⟩ := bF60 hH hf (j := 14) (ty := .inr (2, 67)) (by decide +kernel)
  cases bT_one (by decide) (by decide +kernel) r14
  obtain ⟨w15, f15, r15⟩ := bF60 hH hf (j := 15) (ty := .inr (2, 68)) (by decide +kernel)
  cases bT_one (by decide) (by decide +kernel) r15
  obtain ⟨w16, f16, r16⟩ := bF60 hH hf (j := 16) (ty := .inr (2, 69)) (by decide +kernel)
  cases bT_one (by decide) (by decide +kernel) r16
  obtain ⟨w17, f17, r17⟩ := bF60 hH hf (j := 17) (ty := .inr (2, 70)) (by decide +kernel)
  cases bT_one (by decide) (by decide +kernel) r17
  obtain ⟨w18, f18, r18⟩ := bF60 hH hf (j := 18) (ty := .inr (2, 71)) (by decide +kernel)
  cases bT_one (by decide) (by decide +kernel) r18
  have sn : s.toNatClampNeg = S := i_nat hs
  have e0 : (0 : Int32).toInt = 0 := rfl
  have e100 : (Int8.ofInt 100).toInt32.toInt = 100 := rfl
  refine sDo_of (d := 9) (nL := 3) (L := [some (.ref 60), some (.int s), some (.int i)]) rfl rfl ?_
  refine g_aload_n (i := 0) rfl rfl ?_
  refine g_iload_n (i := 1) rfl rfl ?_
  refine g_virt1 (Qc := fun r h' => h' = h ∧ r = some (.int 1)) rfl (by decide) rfl hf rfl (Nat.le_of_ble_eq_true rfl) (s_sh12 (by rw [if_pos (by omega)])) (fun r h9 hq9 => ?_)
  obtain ⟨rfl, rfl⟩ := hq9
  refine g_if_eq 46 rfl rfl (fun hc => absurd hc (by decide)) (fun _ => ?_)
  refine g_aload_n (i := 0) rfl rfl ?_
  refine g_getfield (v := .ref 67) rfl hf (by decide) f14 ?_
  refine g_iload_n (i := 1) rfl rfl ?_
  refine g_ialv (n := 8) (f := hd) (v := hd S) rfl a4 (i_in (by omega) (by omega)) (congrArg hd sn) ?_
  refine g_iconst (n := 1) rfl ?_
  refine g_icmp_ne 46 rfl rfl (fun c1 => ?_) (fun c1 => ?_)
  · skip
    refine g_lconst (n := 0) rfl ?_
    refine g_lreturn rfl rfl ?_
    rw [hw, if_neg (fun z => c1 z.1)]; exact ⟨rfl, hR⟩
  · skip
    replace c1 : hd S = 1 := c1
    refine g_iload_n (i := 2) rfl rfl ?_
    refine g_if_lt 46 rfl rfl (fun c2 => ?_) (fun c2 => ?_)
    · skip
      rw [i_lt, e0] at c2
      refine g_lconst (n := 0) rfl ?_
      refine g_lreturn rfl rfl ?_
      rw [hw, if_neg (fun z => by omega)]; exact ⟨rfl, hR⟩
    · skip
      rw [i_lt, e0] at c2
      refine g_iload_n (i := 2) rfl rfl ?_
      refine g_aload_n (i := 0) rfl rfl ?_
      refine g_getfield (v := .ref 69) rfl hf (by decide) f16 ?_
      refine g_iload_n (i := 1) rfl rfl ?_
      refine g_ialv (n := 8) (f := sz) (v := sz S) rfl a6 (i_in (by omega) (by omega)) (congrArg sz sn) ?_
      refine g_icmp_ge 46 rfl rfl (fun c3 => ?_) (fun c3 => ?_)
      · skip
        rw [i_le] at c3
        refine g_lconst (n := 0) rfl ?_
        refine g_lreturn rfl rfl ?_
        rw [hw, if_neg (fun z => by omega)]; exact ⟨rfl, hR⟩
      · skip
        rw [i_le] at c3
        have hz := hz c1
        have in_ : (i.toNatClampNeg : Int) = i.toInt := by
          show ((i.toInt.toNat : Nat) : Int) = i.toInt
          omega
        have m1 : ((Int8.ofInt 100).toInt32 * s).toInt = 100 * S := by rw [i_mul (by rw [e100]; omega) (by rw [e100]; omega), e100, hs]
        have m2 : ((Int8.ofInt 100).toInt32 * s + i).toInt = ((100 * S + i.toNatClampNeg : Nat) : Int) := by rw [i_add (by rw [m1]; omega) (by rw [m1]; omega), m1]; omega
        have hw2 : w = cl (100 * S + i.toNatClampNeg) := by rw [hw, if_pos ⟨c1, by omega, by omega⟩]
        refine g_aload_n (i := 0) rfl rfl ?_
        refine g_getfield (v := .ref 71) rfl hf (by decide) f18 ?_
        refine g_bipush (n := 100) rfl ?_
        refine g_iload_n (i := 1) rfl rfl ?_
        refine g_imul rfl ?_
        refine g_iload_n (i := 2) rfl rfl ?_
        refine g_iadd rfl ?_
        refine g_laload (n := 800) (f := cl) rfl a8 (i_in (by omega) (by omega)) ?_
        rw [i_nat m2, ← hw2]
        refine g_goto 47 rfl rfl ?_
        refine g_lreturn rfl rfl ?_
        exact ⟨rfl, hR⟩
theorem pr_element (s i : Int32) : bPair 117 181 [.int s, .int i] := by
  have c1 : ∀ h, bH h → sDo 10 117 (.ref 0 :: [.int s, .int i]) h (fun _ h' => bH h' ∧ h'.length ≤ h.length + 1) := fun h hH => pr_use ch_X11_element_0 (by decide +kernel) (by decide +kernel) rfl hH ⟨bt0 hH, vI0 s, vI0 i, trivial⟩
  have c2 : ∀ h, bH h → sDo 10 181 (.ref 60 :: [.int s, .int i]) h (fun _ h' => bH h' ∧ h'.length ≤ h.length + 1) := fun h hH => pr_use ch_X12_element_0 (by decide +kernel) (by decide +kernel) rfl hH ⟨bt60 hH, vI0 s, vI0 i, trivial⟩
  intro h hH hR
  by_cases hs : 0 ≤ s.toInt ∧ s.toInt < 8
  · obtain ⟨hd, so, sz, co, cl, f, g, q4, q5⟩ := hR
    have hR : bR5 h := ⟨hd, so, sz, co, cl, f, g, q4, q5⟩
    obtain ⟨S, hS⟩ : ∃ S : Nat, s.toInt = S := ⟨s.toInt.toNat, by omega⟩
    have hS8 : S < 8 := by omega
    obtain ⟨ot, z, el, b1, b2, b3⟩ := q5 S hS8
    have b3c := b3
    rcases b3 with ⟨x1, x2, x3⟩ | ⟨x1, x2, x3, x4, x5, x6, x7, x8, x9⟩ | ⟨x1, x2, pc, x3, x4, x5, x6, x7⟩
    · refine pair_case (x := .long 0) hH c1 c2 (s_el11_no hH (nr := nrOf hd S) (by unfold nrOf; rw [x1]; decide) (s_noIn (d := 0) hH q4 hS hS8 b1 b3c)) (fun h1 hH1 hP => ?_)
      subst hP
      exact s_el12_in hH1 q4 hR hS hS8 (fun z => by rw [x1] at z; exact absurd z (by decide)) (by rw [if_neg]; intro z; rw [x1] at z; exact absurd z.1 (by decide))
    · refine pair_case (x := .long (if 0 ≤ i.toInt ∧ i.toInt < z.toInt then el i.toNatClampNeg else 0)) hH c1 c2 (s_el11_in hH q4 hS hS8 b1 b2 b3c x1 rfl) (fun h1 hH1 hP => ?_)
      subst hP
      refine s_el12_in hH1 q4 hR hS hS8 (fun _ => by rw [← x6]; exact x8) ?_
      by_cases hi : 0 ≤ i.toInt ∧ i.toInt < z.toInt
      · have in_ : (i.toNatClampNeg : Int) = i.toInt := by
          show ((i.toInt.toNat : Nat) : Int) = i.toInt
          omega
        rw [if_pos hi, if_pos ⟨x1, hi.1, by rw [← x6]; exact hi.2⟩]
        exact x9 _ (by omega)
      · rw [if_neg hi, if_neg (fun z => hi ⟨z.2.1, by rw [x6]; exact z.2.2⟩)]
    · refine pair_case (x := .long 0) hH c1 c2 (s_el11_no hH (nr := nrOf hd S) (by unfold nrOf; rw [x1]; decide) (s_noIn (d := 0) hH q4 hS hS8 b1 b3c)) (fun h1 hH1 hP => ?_)
      subst hP
      exact s_el12_in hH1 q4 hR hS hS8 (fun z => by rw [x1] at z; exact absurd z (by decide)) (by rw [if_neg]; intro z; rw [x1] at z; exact absurd z.1 (by decide))
  · refine pair_case (x := .long 0) hH c1 c2 (s_el11_no hH (nr := -1) (by decide) (s_noOut (d := 0) hs)) (fun h1 hH1 hP => ?_)
    subst hP
    exact s_el12_out hH1 hR hs
theorem s_ho11_out {h : sHp} {s : Int32} (hH : bH h) (hs : ¬ (0 ≤ s.toInt ∧ s.toInt < 8)) : sDo 10 119 [.ref 0, .int s] h (fun r h' => r = some (.int (-1)) ∧ h' = h) := by
  refine sDo_of (d := 9) (nL := 2) (L := [some (.ref 0), some (.int s)]) rfl rfl ?_
  refine g_iload_n (i := 1) rfl rfl ?_
  refine g_static1 (Qc := fun r h' => h' = h ∧ r = some (.int 0)) rfl (by decide) rfl (Nat.le_of_ble_eq_true rfl) (s_sh11 (by rw [if_neg hs])) (fun r h9 hq9 => ?_)
  obtain ⟨rfl, rfl⟩ := hq9
  refine g_if_ne 9 rfl rfl (fun hc => absurd hc (by decide)) (fun _ => ?_)
  refine g_iconst (n := (-1)) rfl ?_
  refine g_ireturn (ty := .int) rfl rfl rfl ?_
  exact ⟨rfl, rfl⟩
theorem s_ho11_in {h : sHp} {hd so sz co : Nat → Int32} {cl : Nat → Int64} {f g : Nat → Option Nat} {s : Int32} {S : Nat} {ot z : Int32} {el : Nat → Int64} (hH : bH h) (q4 : bR4 h hd so sz co cl f g) (hs : s.toInt = S) (hS : S < 8) (b1 : h[44 + 2 * S]? = some (.inr (7, [.int ot, .int z, .ref (45 + 2 * S)]))) (b2 : h[45 + 2 * S]? = some (.inl (1, 100, .inr (.inl el)))) (b3 : bSh hd so sz co cl g h S ot z el) {x : Int32} (hx : (hd S = 0 ∧ x = -1) ∨ (hd S = 1 ∧ x = Int32.ofInt 10000 + so S) ∨ (hd S = 2 ∧ x = co S)) : sDo 10 119 [.ref 0, .int s] h (fun r h' => r = some (.int x) ∧ h' = h) := by
  obtain ⟨a1, a2, a3, a4, a5, a6, a7, a8⟩ := q4
  obtain ⟨fs, hf, -, hfs⟩ := bFldK hH (p := 0) (by decide) rfl
  obtain ⟨v0, f0, r0⟩ := hfs 0 _ rfl
  cases bT_one (by decide) (by decide +kernel) r0
  obtain ⟨v1, f1, r1⟩ := hfs 1 _ rfl
  cases bT_one (by decide) (by decide +kernel) r1
  have sn : s.toNatClampNeg = S := i_nat hs
  have fS : va_rf (f s.toNatClampNeg) = .ref (44 + 2 * S) := by rw [sn, a2 S hS]; rfl
  refine sDo_of (d := 9) (nL := 2) (L := [some (.ref 0), some (.int s)]) rfl rfl ?_
  refine g_iload_n (i := 1) rfl rfl ?_
  refine g_static1 (Qc := fun r h' => h' = h ∧ r = some (.int 1)) rfl (by decide) rfl (Nat.le_of_ble_eq_true rfl) (s_sh11 (by rw [if_pos (by omega)])) (fun r h9 hq9 => ?_)
  obtain ⟨rfl, rfl⟩ := hq9
  refine g_if_ne 9 rfl rfl (fun _ => ?_) (fun hc => absurd hc (by decide))
  refine g_aload_n (i := 0) rfl rfl ?_
  refine g_getfield (v := .ref 2) rfl hf (by decide) f1 ?_
  refine g_iload_n (i := 1) rfl rfl ?_
  rcases b3 with ⟨x1, x2, x3⟩ | ⟨x1, x2, x3, x4, x5, x6, x7, x8, x9⟩ | ⟨x1, x2, pc, x3, x4, x5, x6, x7⟩
  · skip
    have hgS : va_rf (g s.toNatClampNeg) = .null := by rw [sn, x2]; rfl
    refine g_aaload rfl a3 (by decide) (i_in (by omega) (by omega)) ?_
    rw [hgS]
    refine g_ifnullN 28 rfl rfl ?_
    refine g_aload_n (i := 0) rfl rfl ?_
    refine g_getfield (v := .ref 1) rfl hf (by decide) f0 ?_
    refine g_iload_n (i := 1) rfl rfl ?_
    refine g_aaload rfl a1 (by decide) (i_in (by omega) (by omega)) ?_
    rw [fS]
    refine g_virt0 (Qc := fun r h' => h' = h9 ∧ r = some (.int 0)) rfl (by decide) rfl b1 rfl (Nat.le_of_ble_eq_true rfl) (s_isHeld b1 (by rw [if_pos x3])) (fun r h8 hq9 => ?_)
    obtain ⟨rfl, rfl⟩ := hq9
    refine g_if_eq 56 rfl rfl (fun _ => ?_) (fun hc => absurd hc (by decide))
    refine g_iconst (n := (-1)) rfl ?_
    refine g_ireturn (ty := .int) rfl rfl rfl ?_
    rcases hx with ⟨-, rfl⟩ | ⟨y1, -⟩ | ⟨y1, -⟩
    · exact ⟨rfl, rfl⟩
    · rw [x1] at y1
      exact absurd y1 (by decide)
    · rw [x1] at y1
      exact absurd y1 (by decide)
  · skip
    have hgS : va_rf (g s.toNatClampNeg) = .null := by rw [sn, x2]; rfl
    refine g_aaload rfl a3 (by decide) (i_in (by omega) (by omega)) ?_
    rw [hgS]
    refine g_ifnullN 28 rfl rfl ?_
    refine g_aload_n (i := 0) rfl rfl ?_
    refine g_getfield (v := .ref 1) rfl hf (by decide) f0 ?_
    refine g_iload_n (i := 1) rfl rfl ?_
    refine g_aaload rfl a1 (by decide) (i_in (by omega) (by omega)) ?_
    rw [fS]
    refine g_virt0 (Qc := fun r h' => h' = h9 ∧ r = some (.int 1)) rfl (by decide) rfl b1 rfl (Nat.le_of_ble_eq_true rfl) (s_isHeld b1 (by rw [if_neg (fun z => by rw [z] at x4; exact absurd x4 (by decide))])) (fun r h8 hq9 => ?_)
    obtain ⟨rfl, rfl⟩ := hq9
    refine g_if_eq 56 rfl rfl (fun hc => absurd hc (by decide)) (fun _ => ?_)
    refine g_sipush (n := 10000) rfl ?_
    refine g_aload_n (i := 0) rfl rfl ?_
    refine g_getfield (v := .ref 1) rfl hf (by decide) f0 ?_
    refine g_iload_n (i := 1) rfl rfl ?_
    refine g_aaload rfl a1 (by decide) (i_in (by omega) (by omega)) ?_
    rw [fS]
    refine g_getfield (v := .int ot) rfl b1 (by decide) rfl ?_
    refine g_iadd rfl ?_
    refine g_goto 57 rfl rfl ?_
    refine g_ireturn (ty := .int) rfl rfl rfl ?_
    rcases hx with ⟨y1, -⟩ | ⟨-, rfl⟩ | ⟨y1, -⟩
    · rw [x1] at y1
      exact absurd y1 (by decide)
    · rw [x3]
      exact ⟨rfl, rfl⟩
    · rw [x1] at y1
      exact absurd y1 (by decide)
  · skip
    have hgS : va_rf (g s.toNatClampNeg) = .ref pc := by rw [sn, x4]; rfl
    refine g_aaload rfl a3 (by decide) (i_in (by omega) (by omega)) ?_
    rw [hgS]
    refine g_ifnull 28 rfl rfl ?_
    refine g_aload_n (i := 0) rfl rfl ?_
    refine g_getfield (v := .ref 2) rfl hf (by decide) f1 ?_
    refine g_iload_n (i := 1) rfl rfl ?_
    refine g_aaload rfl a3 (by decide) (i_in (by omega) (by omega)) ?_
    rw [hgS]
    refine g_getfield (v := .int (co S)) rfl x5 (cut_ty (bKi_in _)).1 rfl ?_
    refine g_ireturn (ty := .int) rfl rfl rfl ?_
    rcases hx with ⟨y1, -⟩ | ⟨y1, -⟩ | ⟨-, rfl⟩
    · rw [x1] at y1
      exact absurd y1 (by decide)
    · rw [x1] at y1
      exact absurd y1 (by decide)
    · exact ⟨rfl, rfl⟩
theorem s_ho12_out {h : sHp} {s : Int32} (hH : bH h) (hR : bR5 h) (hs : ¬ (0 ≤ s.toInt ∧ s.toInt < 8)) : sDo 10 183 [.ref 60, .int s] h (fun r h' => r = some (.int (-1)) ∧ bR5 h') := by
  obtain ⟨fs, hf, -⟩ := bObj60 hH
  refine sDo_of (d := 9) (nL := 2) (L := [some (.ref 60), some (.int s)]) rfl rfl ?_
  refine g_aload_n (i := 0) rfl rfl ?_
  refine g_iload_n (i := 1) rfl rfl ?_
  refine g_virt1 (Qc := fun r h' => h' = h ∧ r = some (.int 0)) rfl (by decide) rfl hf rfl (Nat.le_of_ble_eq_true rfl) (s_sh12 (by rw [if_neg hs])) (fun r h9 hq9 => ?_)
  obtain ⟨rfl, rfl⟩ := hq9
  refine g_if_eq 17 rfl rfl (fun _ => ?_) (fun hc => absurd hc (by decide))
  refine g_iconst (n := (-1)) rfl ?_
  refine g_ireturn (ty := .int) rfl rfl rfl ?_
  exact ⟨rfl, hR⟩
theorem s_ho12_in {h : sHp} {hd so sz co : Nat → Int32} {cl : Nat → Int64} {f g : Nat → Option Nat} {s : Int32} {S : Nat} (hH : bH h) (q4 : bR4 h hd so sz co cl f g) (hR : bR5 h) (hs : s.toInt = S) (hS : S < 8) {x : Int32} (hx : (hd S = 0 ∧ x = -1) ∨ (hd S = 1 ∧ x = Int32.ofInt 10000 + so S) ∨ (hd S = 2 ∧ x = co S)) : sDo 10 183 [.ref 60, .int s] h (fun r h' => r = some (.int x) ∧ bR5 h') := by
  obtain ⟨a1, a2, a3, a4, a5, a6, a7, a8⟩ := q4
  obtain ⟨fs, hf, -⟩ := bObj60 hH
  obtain ⟨w14, f14, r14⟩ := bF60 hH hf (j := 14) (ty := .inr (2, 67)) (by decide +kernel)
  cases bT_one (by decide) (by decide +kernel) r14
  obtain ⟨w15, f15, r15⟩ := bF60 hH hf (j := 15) (ty := .inr (2, 68)) (by decide +kernel)
  cases bT_one (by decide) (by decide +kernel) r15
  obtain ⟨w16, f16, r16⟩ := bF60 hH hf (j := 16) (ty := .inr (2, 69)) (by decide +kernel)
  cases bT_one (by decide) (by decide +kernel) r16
  obtain ⟨w17, f17, r17⟩ := bF60 hH hf (j := 17) (ty := .inr (2, 70)) (by decide +kernel)
  cases bT_one (by decide) (by decide +kernel) r17
  obtain ⟨w18, f18, r18⟩ := bF60 hH hf (j := 18) (ty := .inr (2, 71)) (by decide +kernel)
  cases bT_one (by decide) (by decide +kernel) r18
  have sn : s.toNatClampNeg = S := i_nat hs
  refine sDo_of (d := 9) (nL := 2) (L := [some (.ref 60), some (.int s)]) rfl rfl ?_
  refine g_aload_n (i := 0) rfl rfl ?_
  refine g_iload_n (i := 1) rfl rfl ?_
  refine g_virt1 (Qc := fun r h' => h' = h ∧ r = some (.int 1)) rfl (by decide) rfl hf rfl (Nat.le_of_ble_eq_true rfl) (s_sh12 (by rw [if_pos (by omega)])) (fun r h9 hq9 => ?_)
  obtain ⟨rfl, rfl⟩ := hq9
  refine g_if_eq 17 rfl rfl (fun hc => absurd hc (by decide)) (fun _ => ?_)
  refine g_aload_n (i := 0) rfl rfl ?_
  refine g_getfield (v := .ref 67) rfl hf (by decide) f14 ?_
  refine g_iload_n (i := 1) rfl rfl ?_
  refine g_ialv (n := 8) (f := hd) (v := hd S) rfl a4 (i_in (by omega) (by omega)) (congrArg hd sn) ?_
  rcases hx with ⟨y1, rfl⟩ | ⟨y1, rfl⟩ | ⟨y1, rfl⟩
  · skip
    refine g_if_ne 19 rfl rfl (fun hc => absurd hc (by exact fun z => z y1)) (fun _ => ?_)
    refine g_iconst (n := (-1)) rfl ?_
    refine g_ireturn (ty := .int) rfl rfl rfl ?_
    exact ⟨rfl, hR⟩
  · skip
    refine g_if_ne 19 rfl rfl (fun _ => ?_) (fun hc => absurd hc (by rw [y1]; decide))
    refine g_aload_n (i := 0) rfl rfl ?_
    refine g_getfield (v := .ref 67) rfl hf (by decide) f14 ?_
    refine g_iload_n (i := 1) rfl rfl ?_
    refine g_ialv (n := 8) (f := hd) (v := hd S) rfl a4 (i_in (by omega) (by omega)) (congrArg hd sn) ?_
    refine g_iconst (n := 1) rfl ?_
    refine g_icmp_ne 42 rfl rfl (fun hc => absurd hc (by exact fun z => z y1)) (fun _ => ?_)
    refine g_sipush (n := 10000) rfl ?_
    refine g_aload_n (i := 0) rfl rfl ?_
    refine g_getfield (v := .ref 68) rfl hf (by decide) f15 ?_
    refine g_iload_n (i := 1) rfl rfl ?_
    refine g_ialv (n := 8) (f := so) (v := so S) rfl a5 (i_in (by omega) (by omega)) (congrArg so sn) ?_
    refine g_iadd rfl ?_
    refine g_goto 48 rfl rfl ?_
    refine g_ireturn (ty := .int) rfl rfl rfl ?_
    exact ⟨rfl, hR⟩
  · skip
    refine g_if_ne 19 rfl rfl (fun _ => ?_) (fun hc => absurd hc (by rw [y1]; decide))
    refine g_aload_n (i := 0) rfl rfl ?_
    refine g_getfield (v := .ref 67) rfl hf (by decide) f14 ?_
    refine g_iload_n (i := 1) rfl rfl ?_
    refine g_ialv (n := 8) (f := hd) (v := hd S) rfl a4 (i_in (by omega) (by omega)) (congrArg hd sn) ?_
    refine g_iconst (n := 1) rfl ?_
    refine g_icmp_ne 42 rfl rfl (fun _ => ?_) (fun hc => absurd hc (by rw [y1]; decide))
    refine g_aload_n (i := 0) rfl rfl ?_
    refine g_getfield (v := .ref 70) rfl hf (by decide) f17 ?_
    refine g_iload_n (i := 1) rfl rfl ?_
    refine g_ialv (n := 8) (f := co) (v := co S) rfl a7 (i_in (by omega) (by omega)) (congrArg co sn) ?_
    refine g_ireturn (ty := .int) rfl rfl rfl ?_
    exact ⟨rfl, hR⟩
theorem pr_holds (s : Int32) : bPair 119 183 [.int s] := by
  have c1 : ∀ h, bH h → sDo 10 119 (.ref 0 :: [.int s]) h (fun _ h' => bH h' ∧ h'.length ≤ h.length + 1) := fun h hH => pr_use ch_X11_holds_0 (by decide +kernel) (by decide +kernel) rfl hH ⟨bt0 hH, vI0 s, trivial⟩
  have c2 : ∀ h, bH h → sDo 10 183 (.ref 60 :: [.int s]) h (fun _ h' => bH h' ∧ h'.length ≤ h.length + 1) := fun h hH => pr_use ch_X12_holds_0 (by decide +kernel) (by decide +kernel) rfl hH ⟨bt60 hH, vI0 s, trivial⟩
  intro h hH hR
  by_cases hs : 0 ≤ s.toInt ∧ s.toInt < 8
  · obtain ⟨hd, so, sz, co, cl, f, g, q4, q5⟩ := hR
    have hR : bR5 h := ⟨hd, so, sz, co, cl, f, g, q4, q5⟩
    obtain ⟨S, hS⟩ : ∃ S : Nat, s.toInt = S := ⟨s.toInt.toNat, by omega⟩
    have hS8 : S < 8 := by omega
    obtain ⟨ot, z, el, b1, b2, b3⟩ := q5 S hS8
    have b3c := b3
    rcases b3 with ⟨x1, x2, x3⟩ | ⟨x1, x2, x3, x4, x5, x6, x7, x8, x9⟩ | ⟨x1, x2, pc, x3, x4, x5, x6, x7⟩
    · refine pair_case (x := .int (-1)) hH c1 c2 (s_ho11_in hH q4 hS hS8 b1 b2 b3c (Or.inl ⟨x1, rfl⟩)) (fun h1 hH1 hP => ?_)
      subst hP
      exact s_ho12_in hH1 q4 hR hS hS8 (Or.inl ⟨x1, rfl⟩)
    · refine pair_case (x := .int (Int32.ofInt 10000 + so S)) hH c1 c2 (s_ho11_in hH q4 hS hS8 b1 b2 b3c (Or.inr (Or.inl ⟨x1, rfl⟩))) (fun h1 hH1 hP => ?_)
      subst hP
      exact s_ho12_in hH1 q4 hR hS hS8 (Or.inr (Or.inl ⟨x1, rfl⟩))
    · refine pair_case (x := .int (co S)) hH c1 c2 (s_ho11_in hH q4 hS hS8 b1 b2 b3c (Or.inr (Or.inr ⟨x1, rfl⟩))) (fun h1 hH1 hP => ?_)
      subst hP
      exact s_ho12_in hH1 q4 hR hS hS8 (Or.inr (Or.inr ⟨x1, rfl⟩))
  · refine pair_case (x := .int (-1)) hH c1 c2 (s_ho11_out hH hs) (fun h1 hH1 hP => ?_)
    subst hP
    exact s_ho12_out hH1 hR hs
end
section
/-! ===== the pair row ===== -/
theorem pr_box {c1 c2 : bCn} {v : Int} {as : List Value} (h1 : bHolds c1) (h2 : bHolds c2) (d1 : Nat.ble c1.2.1 10 = true) (d2 : Nat.ble c2.2.1 10 = true) (g1 : Nat.ble c1.2.2.2.2.2.1 1 = true) (g2 : Nat.ble c2.2.2.2.2.2.1 1 = true) (w1 : ∀ b ∈ bRM, c1.2.2.2.2.1.testBit b = false) (w2 : ∀ b ∈ bRM, c2.2.2.2.2.1.testBit b = false) (o1 : c1.2.2.2.1 = []) (o2 : c2.2.2.2.1 = []) (p1 : c1.2.2.2.2.2.2 = [(some (.inl (v, v)), [])]) (p2 : c2.2.2.2.2.2.2 = [(some (.inl (v, v)), [])]) (t1 : ∀ h, bH h → bTl h c1.2.2.1 (.ref 0 :: as)) (t2 : ∀ h, bH h → bTl h c2.2.2.1 (.ref 60 :: as)) : bPair c1.1 c2.1 as := by
  intro h hH hR
  have use : ∀ (c : bCn) (vs : List Value) (h : sHp), bHolds c → Nat.ble c.2.1 10 = true → Nat.ble c.2.2.2.2.2.1 1 = true → (∀ b ∈ bRM, c.2.2.2.2.1.testBit b = false) → c.2.2.2.1 = [] → c.2.2.2.2.2.2 = [(some (.inl (v, v)), [])] → bTl h c.2.2.1 vs → bH h → bR5 h → sDo 10 c.1 vs h (fun r h' => bH h' ∧ h'.length ≤ h.length + 1 ∧ bR5 h' ∧ r = some (.int (Int32.ofInt v))) := by
    intro c vs h hc hd hg hw ho hp ht hH hR
    refine sDo_up (Nat.le_of_ble_eq_true hd) (sDo_mono (hc h vs hH ht (by rw [ho]; exact fun e he => by cases he)) (fun r h' hen => ?_))
    obtain ⟨a, b, po, hpo, hr, -⟩ := hen
    rw [hp] at hpo
    cases List.mem_singleton.mp hpo
    obtain ⟨w, rfl, x, rfl, x1, x2⟩ := hr
    have hl := b.2.1
    have hg' := Nat.le_of_ble_eq_true hg
    refine ⟨a, by omega, bR5_fr b hw hR, ?_⟩
    rw [← show x.toInt = v by omega, Int32.ofInt_toInt]
  refine sDo_mono (use c1 _ h h1 d1 g1 w1 o1 p1 (t1 h hH) hH hR) (fun r1 h1' q => ?_)
  obtain ⟨q1, q2, q3, rfl⟩ := q
  refine ⟨q1, q2, sDo_mono (use c2 _ h1' h2 d2 g2 w2 o2 p2 (t2 h1' q1) q1 q3) (fun r2 h2' z => ?_)⟩
  exact ⟨z.1, z.2.1, z.2.2.1, _, rfl, z.2.2.2⟩
theorem pr_row (x0 x1 x2 : Int32) : bPair 114 178 [.int x0, .int x1, .int x2] := by
  have fx0 : (-2147483648 : Int) ≤ x0.toInt ∧ x0.toInt ≤ 2147483647 := aFull_ok x0
  have fx1 : (-2147483648 : Int) ≤ x1.toInt ∧ x1.toInt ≤ 2147483647 := aFull_ok x1
  have fx2 : (-2147483648 : Int) ≤ x2.toInt ∧ x2.toInt ≤ 2147483647 := aFull_ok x2
  rcases (show (-2147483648 ≤ x0.toInt ∧ x0.toInt ≤ -1) ∨ (0 ≤ x0.toInt ∧ x0.toInt ≤ 7) ∨ (8 ≤ x0.toInt ∧ x0.toInt ≤ 2147483647) by omega) with hx0 | hx0 | hx0
  · skip
    rcases (show (-2147483648 ≤ x1.toInt ∧ x1.toInt ≤ -1) ∨ (0 ≤ x1.toInt ∧ x1.toInt ≤ 3) ∨ (4 ≤ x1.toInt ∧ x1.toInt ≤ 2147483647) by omega) with hx1 | hx1 | hx1
    · skip
      rcases (show (-2147483648 ≤ x2.toInt ∧ x2.toInt ≤ -1) ∨ (0 ≤ x2.toInt ∧ x2.toInt ≤ 100) ∨ (101 ≤ x2.toInt ∧ x2.toInt ≤ 2147483647) by omega) with hx2 | hx2 | hx2
      · skip
        exact pr_box (v := .negSucc 0) ch_X11_row_1 ch_X12_row_1 (by decide +kernel) (by decide +kernel) (by decide +kernel) (by decide +kernel) (by decide +kernel) (by decide +kernel) rfl rfl rfl rfl (fun h hH => ⟨bt0 hH, bti hx0.1 hx0.2, bti hx1.1 hx1.2, bti hx2.1 hx2.2, trivial⟩) (fun h hH => ⟨bt60 hH, bti hx0.1 hx0.2, bti hx1.1 hx1.2, bti hx2.1 hx2.2, trivial⟩)
      · skip
        exact pr_box (v := .negSucc 0) ch_X11_row_2 ch_X12_row_2 (by decide +kernel) (by decide +kernel) (by decide +kernel) (by decide +kernel) (by decide +kernel) (by decide +kernel) rfl rfl rfl rfl (fun h hH => ⟨bt0 hH, bti hx0.1 hx0.2, bti hx1.1 hx1.2, bti hx2.1 hx2.2, trivial⟩) (fun h hH => ⟨bt60 hH, bti hx0.1 hx0.2, bti hx1.1 hx1.2, bti hx2.1 hx2.2, trivial⟩)
      · skip
        exact pr_box (v := .negSucc 0) ch_X11_row_3 ch_X12_row_3 (by decide +kernel) (by decide +kernel) (by decide +kernel) (by decide +kernel) (by decide +kernel) (by decide +kernel) rfl rfl rfl rfl (fun h hH => ⟨bt0 hH, bti hx0.1 hx0.2, bti hx1.1 hx1.2, bti hx2.1 hx2.2, trivial⟩) (fun h hH => ⟨bt60 hH, bti hx0.1 hx0.2, bti hx1.1 hx1.2, bti hx2.1 hx2.2, trivial⟩)
    · skip
      rcases (show (-2147483648 ≤ x2.toInt ∧ x2.toInt ≤ -1) ∨ (0 ≤ x2.toInt ∧ x2.toInt ≤ 100) ∨ (101 ≤ x2.toInt ∧ x2.toInt ≤ 2147483647) by omega) with hx2 | hx2 | hx2
      · skip
        exact pr_box (v := .negSucc 0) ch_X11_row_4 ch_X12_row_4 (by decide +kernel) (by decide +kernel) (by decide +kernel) (by decide +kernel) (by decide +kernel) (by decide +kernel) rfl rfl rfl rfl (fun h hH => ⟨bt0 hH, bti hx0.1 hx0.2, bti hx1.1 hx1.2, bti hx2.1 hx2.2, trivial⟩) (fun h hH => ⟨bt60 hH, bti hx0.1 hx0.2, bti hx1.1 hx1.2, bti hx2.1 hx2.2, trivial⟩)
      · skip
        exact pr_box (v := .negSucc 0) ch_X11_row_5 ch_X12_row_5 (by decide +kernel) (by decide +kernel) (by decide +kernel) (by decide +kernel) (by decide +kernel) (by decide +kernel) rfl rfl rfl rfl (fun h hH => ⟨bt0 hH, bti hx0.1 hx0.2, bti hx1.1 hx1.2, bti hx2.1 hx2.2, trivial⟩) (fun h hH => ⟨bt60 hH, bti hx0.1 hx0.2, bti hx1.1 hx1.2, bti hx2.1 hx2.2, trivial⟩)
      · skip
        exact pr_box (v := .negSucc 0) ch_X11_row_6 ch_X12_row_6 (by decide +kernel) (by decide +kernel) (by decide +kernel) (by decide +kernel) (by decide +kernel) (by decide +kernel) rfl rfl rfl rfl (fun h hH => ⟨bt0 hH, bti hx0.1 hx0.2, bti hx1.1 hx1.2, bti hx2.1 hx2.2, trivial⟩) (fun h hH => ⟨bt60 hH, bti hx0.1 hx0.2, bti hx1.1 hx1.2, bti hx2.1 hx2.2, trivial⟩)
    · skip
      rcases (show (-2147483648 ≤ x2.toInt ∧ x2.toInt ≤ -1) ∨ (0 ≤ x2.toInt ∧ x2.toInt ≤ 100) ∨ (101 ≤ x2.toInt ∧ x2.toInt ≤ 2147483647) by omega) with hx2 | hx2 | hx2
      · skip
        exact pr_box (v := .negSucc 0) ch_X11_row_7 ch_X12_row_7 (by decide +kernel) (by decide +kernel) (by decide +kernel) (by decide +kernel) (by decide +kernel) (by decide +kernel) rfl rfl rfl rfl (fun h hH => ⟨bt0 hH, bti hx0.1 hx0.2, bti hx1.1 hx1.2, bti hx2.1 hx2.2, trivial⟩) (fun h hH => ⟨bt60 hH, bti hx0.1 hx0.2, bti hx1.1 hx1.2, bti hx2.1 hx2.2, trivial⟩)
      · skip
        exact pr_box (v := .negSucc 0) ch_X11_row_8 ch_X12_row_8 (by decide +kernel) (by decide +kernel) (by decide +kernel) (by decide +kernel) (by decide +kernel) (by decide +kernel) rfl rfl rfl rfl (fun h hH => ⟨bt0 hH, bti hx0.1 hx0.2, bti hx1.1 hx1.2, bti hx2.1 hx2.2, trivial⟩) (fun h hH => ⟨bt60 hH, bti hx0.1 hx0.2, bti hx1.1 hx1.2, bti hx2.1 hx2.2, trivial⟩)
      · skip
        exact pr_box (v := .negSucc 0) ch_X11_row_9 ch_X12_row_9 (by decide +kernel) (by decide +kernel) (by decide +kernel) (by decide +kernel) (by decide +kernel) (by decide +kernel) rfl rfl rfl rfl (fun h hH => ⟨bt0 hH, bti hx0.1 hx0.2, bti hx1.1 hx1.2, bti hx2.1 hx2.2, trivial⟩) (fun h hH => ⟨bt60 hH, bti hx0.1 hx0.2, bti hx1.1 hx1.2, bti hx2.1 hx2.2, trivial⟩)
  · skip
    rcases (show (-2147483648 ≤ x1.toInt ∧ x1.toInt ≤ -1) ∨ (0 ≤ x1.toInt ∧ x1.toInt ≤ 3) ∨ (4 ≤ x1.toInt ∧ x1.toInt ≤ 2147483647) by omega) with hx1 | hx1 | hx1
    · skip
      rcases (show (-2147483648 ≤ x2.toInt ∧ x2.toInt ≤ -1) ∨ (0 ≤ x2.toInt ∧ x2.toInt ≤ 100) ∨ (101 ≤ x2.toInt ∧ x2.toInt ≤ 2147483647) by omega) with hx2 | hx2 | hx2
      · skip
        exact pr_box (v := .negSucc 3) ch_X11_row_10 ch_X12_row_10 (by decide +kernel) (by decide +kernel) (by decide +kernel) (by decide +kernel) (by decide +kernel) (by decide +kernel) rfl rfl rfl rfl (fun h hH => ⟨bt0 hH, bti hx0.1 hx0.2, bti hx1.1 hx1.2, bti hx2.1 hx2.2, trivial⟩) (fun h hH => ⟨bt60 hH, bti hx0.1 hx0.2, bti hx1.1 hx1.2, bti hx2.1 hx2.2, trivial⟩)
      · skip
        exact pr_box (v := .negSucc 5) ch_X11_row_11 ch_X12_row_11 (by decide +kernel) (by decide +kernel) (by decide +kernel) (by decide +kernel) (by decide +kernel) (by decide +kernel) rfl rfl rfl rfl (fun h hH => ⟨bt0 hH, bti hx0.1 hx0.2, bti hx1.1 hx1.2, bti hx2.1 hx2.2, trivial⟩) (fun h hH => ⟨bt60 hH, bti hx0.1 hx0.2, bti hx1.1 hx1.2, bti hx2.1 hx2.2, trivial⟩)
      · skip
        exact pr_box (v := .negSucc 5) ch_X11_row_12 ch_X12_row_12 (by decide +kernel) (by decide +kernel) (by decide +kernel) (by decide +kernel) (by decide +kernel) (by decide +kernel) rfl rfl rfl rfl (fun h hH => ⟨bt0 hH, bti hx0.1 hx0.2, bti hx1.1 hx1.2, bti hx2.1 hx2.2, trivial⟩) (fun h hH => ⟨bt60 hH, bti hx0.1 hx0.2, bti hx1.1 hx1.2, bti hx2.1 hx2.2, trivial⟩)
    · skip
      rcases (show (-2147483648 ≤ x2.toInt ∧ x2.toInt ≤ -1) ∨ (0 ≤ x2.toInt ∧ x2.toInt ≤ 100) ∨ (101 ≤ x2.toInt ∧ x2.toInt ≤ 2147483647) by omega) with hx2 | hx2 | hx2
      · skip
        exact pr_box (v := .negSucc 3) ch_X11_row_13 ch_X12_row_13 (by decide +kernel) (by decide +kernel) (by decide +kernel) (by decide +kernel) (by decide +kernel) (by decide +kernel) rfl rfl rfl rfl (fun h hH => ⟨bt0 hH, bti hx0.1 hx0.2, bti hx1.1 hx1.2, bti hx2.1 hx2.2, trivial⟩) (fun h hH => ⟨bt60 hH, bti hx0.1 hx0.2, bti hx1.1 hx1.2, bti hx2.1 hx2.2, trivial⟩)
      · skip
        obtain ⟨S, hS⟩ : ∃ S : Nat, x0.toInt = S := ⟨x0.toInt.toNat, by omega⟩
        exact pair_of (pRow x0 x1 x2 S) (fun h hH => pr_use ch_X11_row_14 (by decide +kernel) (by decide +kernel) rfl hH ⟨bt0 hH, bti hx0.1 hx0.2, bti hx1.1 hx1.2, bti hx2.1 hx2.2, trivial⟩) (fun h hH => pr_use ch_X12_row_14 (by decide +kernel) (by decide +kernel) rfl hH ⟨bt60 hH, bti hx0.1 hx0.2, bti hx1.1 hx1.2, bti hx2.1 hx2.2, trivial⟩) (fun h hH hR => s_row11 hH hR hS (by omega) hx1.1 hx1.2 hx2.1 hx2.2) (fun h h1 x hH hH1 hP => s_row12 hH1 hP hS (by omega) hx1.1 hx1.2 hx2.1 hx2.2)
      · skip
        exact pr_box (v := .negSucc 6) ch_X11_row_15 ch_X12_row_15 (by decide +kernel) (by decide +kernel) (by decide +kernel) (by decide +kernel) (by decide +kernel) (by decide +kernel) rfl rfl rfl rfl (fun h hH => ⟨bt0 hH, bti hx0.1 hx0.2, bti hx1.1 hx1.2, bti hx2.1 hx2.2, trivial⟩) (fun h hH => ⟨bt60 hH, bti hx0.1 hx0.2, bti hx1.1 hx1.2, bti hx2.1 hx2.2, trivial⟩)
    · skip
      rcases (show (-2147483648 ≤ x2.toInt ∧ x2.toInt ≤ -1) ∨ (0 ≤ x2.toInt ∧ x2.toInt ≤ 100) ∨ (101 ≤ x2.toInt ∧ x2.toInt ≤ 2147483647) by omega) with hx2 | hx2 | hx2
      · skip
        exact pr_box (v := .negSucc 3) ch_X11_row_16 ch_X12_row_16 (by decide +kernel) (by decide +kernel) (by decide +kernel) (by decide +kernel) (by decide +kernel) (by decide +kernel) rfl rfl rfl rfl (fun h hH => ⟨bt0 hH, bti hx0.1 hx0.2, bti hx1.1 hx1.2, bti hx2.1 hx2.2, trivial⟩) (fun h hH => ⟨bt60 hH, bti hx0.1 hx0.2, bti hx1.1 hx1.2, bti hx2.1 hx2.2, trivial⟩)
      · skip
        exact pr_box (v := .negSucc 5) ch_X11_row_17 ch_X12_row_17 (by decide +kernel) (by decide +kernel) (by decide +kernel) (by decide +kernel) (by decide +kernel) (by decide +kernel) rfl rfl rfl rfl (fun h hH => ⟨bt0 hH, bti hx0.1 hx0.2, bti hx1.1 hx1.2, bti hx2.1 hx2.2, trivial⟩) (fun h hH => ⟨bt60 hH, bti hx0.1 hx0.2, bti hx1.1 hx1.2, bti hx2.1 hx2.2, trivial⟩)
      · skip
        exact pr_box (v := .negSucc 5) ch_X11_row_18 ch_X12_row_18 (by decide +kernel) (by decide +kernel) (by decide +kernel) (by decide +kernel) (by decide +kernel) (by decide +kernel) rfl rfl rfl rfl (fun h hH => ⟨bt0 hH, bti hx0.1 hx0.2, bti hx1.1 hx1.2, bti hx2.1 hx2.2, trivial⟩) (fun h hH => ⟨bt60 hH, bti hx0.1 hx0.2, bti hx1.1 hx1.2, bti hx2.1 hx2.2, trivial⟩)
  · skip
    rcases (show (-2147483648 ≤ x1.toInt ∧ x1.toInt ≤ -1) ∨ (0 ≤ x1.toInt ∧ x1.toInt ≤ 3) ∨ (4 ≤ x1.toInt ∧ x1.toInt ≤ 2147483647) by omega) with hx1 | hx1 | hx1
    · skip
      rcases (show (-2147483648 ≤ x2.toInt ∧ x2.toInt ≤ -1) ∨ (0 ≤ x2.toInt ∧ x2.toInt ≤ 100) ∨ (101 ≤ x2.toInt ∧ x2.toInt ≤ 2147483647) by omega) with hx2 | hx2 | hx2
      · skip
        exact pr_box (v := .negSucc 0) ch_X11_row_19 ch_X12_row_19 (by decide +kernel) (by decide +kernel) (by decide +kernel) (by decide +kernel) (by decide +kernel) (by decide +kernel) rfl rfl rfl rfl (fun h hH => ⟨bt0 hH, bti hx0.1 hx0.2, bti hx1.1 hx1.2, bti hx2.1 hx2.2, trivial⟩) (fun h hH => ⟨bt60 hH, bti hx0.1 hx0.2, bti hx1.1 hx1.2, bti hx2.1 hx2.2, trivial⟩)
      · skip
        exact pr_box (v := .negSucc 0) ch_X11_row_20 ch_X12_row_20 (by decide +kernel) (by decide +kernel) (by decide +kernel) (by decide +kernel) (by decide +kernel) (by decide +kernel) rfl rfl rfl rfl (fun h hH => ⟨bt0 hH, bti hx0.1 hx0.2, bti hx1.1 hx1.2, bti hx2.1 hx2.2, trivial⟩) (fun h hH => ⟨bt60 hH, bti hx0.1 hx0.2, bti hx1.1 hx1.2, bti hx2.1 hx2.2, trivial⟩)
      · skip
        exact pr_box (v := .negSucc 0) ch_X11_row_21 ch_X12_row_21 (by decide +kernel) (by decide +kernel) (by decide +kernel) (by decide +kernel) (by decide +kernel) (by decide +kernel) rfl rfl rfl rfl (fun h hH => ⟨bt0 hH, bti hx0.1 hx0.2, bti hx1.1 hx1.2, bti hx2.1 hx2.2, trivial⟩) (fun h hH => ⟨bt60 hH, bti hx0.1 hx0.2, bti hx1.1 hx1.2, bti hx2.1 hx2.2, trivial⟩)
    · skip
      rcases (show (-2147483648 ≤ x2.toInt ∧ x2.toInt ≤ -1) ∨ (0 ≤ x2.toInt ∧ x2.toInt ≤ 100) ∨ (101 ≤ x2.toInt ∧ x2.toInt ≤ 2147483647) by omega) with hx2 | hx2 | hx2
      · skip
        exact pr_box (v := .negSucc 0) ch_X11_row_22 ch_X12_row_22 (by decide +kernel) (by decide +kernel) (by decide +kernel) (by decide +kernel) (by decide +kernel) (by decide +kernel) rfl rfl rfl rfl (fun h hH => ⟨bt0 hH, bti hx0.1 hx0.2, bti hx1.1 hx1.2, bti hx2.1 hx2.2, trivial⟩) (fun h hH => ⟨bt60 hH, bti hx0.1 hx0.2, bti hx1.1 hx1.2, bti hx2.1 hx2.2, trivial⟩)
      · skip
        exact pr_box (v := .negSucc 0) ch_X11_row_23 ch_X12_row_23 (by decide +kernel) (by decide +kernel) (by decide +kernel) (by decide +kernel) (by decide +kernel) (by decide +kernel) rfl rfl rfl rfl (fun h hH => ⟨bt0 hH, bti hx0.1 hx0.2, bti hx1.1 hx1.2, bti hx2.1 hx2.2, trivial⟩) (fun h hH => ⟨bt60 hH, bti hx0.1 hx0.2, bti hx1.1 hx1.2, bti hx2.1 hx2.2, trivial⟩)
      · skip
        exact pr_box (v := .negSucc 0) ch_X11_row_24 ch_X12_row_24 (by decide +kernel) (by decide +kernel) (by decide +kernel) (by decide +kernel) (by decide +kernel) (by decide +kernel) rfl rfl rfl rfl (fun h hH => ⟨bt0 hH, bti hx0.1 hx0.2, bti hx1.1 hx1.2, bti hx2.1 hx2.2, trivial⟩) (fun h hH => ⟨bt60 hH, bti hx0.1 hx0.2, bti hx1.1 hx1.2, bti hx2.1 hx2.2, trivial⟩)
    · skip
      rcases (show (-2147483648 ≤ x2.toInt ∧ x2.toInt ≤ -1) ∨ (0 ≤ x2.toInt ∧ x2.toInt ≤ 100) ∨ (101 ≤ x2.toInt ∧ x2.toInt ≤ 2147483647) by omega) with hx2 | hx2 | hx2
      · skip
        exact pr_box (v := .negSucc 0) ch_X11_row_25 ch_X12_row_25 (by decide +kernel) (by decide +kernel) (by decide +kernel) (by decide +kernel) (by decide +kernel) (by decide +kernel) rfl rfl rfl rfl (fun h hH => ⟨bt0 hH, bti hx0.1 hx0.2, bti hx1.1 hx1.2, bti hx2.1 hx2.2, trivial⟩) (fun h hH => ⟨bt60 hH, bti hx0.1 hx0.2, bti hx1.1 hx1.2, bti hx2.1 hx2.2, trivial⟩)
      · skip
        exact pr_box (v := .negSucc 0) ch_X11_row_26 ch_X12_row_26 (by decide +kernel) (by decide +kernel) (by decide +kernel) (by decide +kernel) (by decide +kernel) (by decide +kernel) rfl rfl rfl rfl (fun h hH => ⟨bt0 hH, bti hx0.1 hx0.2, bti hx1.1 hx1.2, bti hx2.1 hx2.2, trivial⟩) (fun h hH => ⟨bt60 hH, bti hx0.1 hx0.2, bti hx1.1 hx1.2, bti hx2.1 hx2.2, trivial⟩)
      · skip
        exact pr_box (v := .negSucc 0) ch_X11_row_27 ch_X12_row_27 (by decide +kernel) (by decide +kernel) (by decide +kernel) (by decide +kernel) (by decide +kernel) (by decide +kernel) rfl rfl rfl rfl (fun h hH => ⟨bt0 hH, bti hx0.1 hx0.2, bti hx1.1 hx1.2, bti hx2.1 hx2.2, trivial⟩) (fun h hH => ⟨bt60 hH, bti hx0.1 hx0.2, bti hx1.1 hx1.2, bti hx2.1 hx2.2, trivial⟩)
end
