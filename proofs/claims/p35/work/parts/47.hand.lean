/-! ===== by hand: a new cut ===== -/
theorem bFldK {h : sHp} {p ci : Nat} {tys : List bTy} (hH : bH h) (hp : p < 79) (hg : bGam (bKp p (.inr (0, []))) = some (.inr (ci, tys))) : ∃ fs : List Value, h[p]? = some (.inr (ci, fs)) ∧ fs.length = tys.length ∧ ∀ (j : Nat) (ty : bTy), tys[j]? = some ty → ∃ v : Value, fs[j]? = some v ∧ bT h ty v := by
  obtain ⟨c, ct, h1, h2, h3⟩ := bH_at hH hp
  rw [bKp_at hp c (.inr (0, [])), hg] at h2
  cases h2
  obtain ⟨fs, rfl, e1, e2⟩ := h3
  exact ⟨fs, h1, e1, e2⟩
theorem bEx_app (h : sHp) (c : va_E) : bEx h (h ++ [c]) := fun p c' hc => ⟨c', by
  rw [List.getElem?_append_left (List.getElem?_eq_some_iff.mp hc).1]; exact hc, rfl⟩
theorem s_app_at (h : sHp) (c : va_E) : (h ++ [c])[h.length]? = some c := by
  rw [List.getElem?_append_right (Nat.le_refl _), Nat.sub_self]; rfl
theorem s_app_lt {h : sHp} {p : Nat} {c c' : va_E} (hc : h[p]? = some c) : (h ++ [c'])[p]? = some c := by
  rw [List.getElem?_append_left (List.getElem?_eq_some_iff.mp hc).1]; exact hc
theorem s_app_set (h : sHp) (c c' : va_E) : (h ++ [c]).set h.length c' = h ++ [c'] := by
  rw [List.set_append_right _ _ (Nat.le_refl _), Nat.sub_self]; rfl
theorem bH_app {h : sHp} {c : va_E} {ct : bCt} (hH : bH h) (hk : bGam (bKp h.length c) = some ct) (hm : bCm (h ++ [c]) ct c) (W : Nat) : bH (h ++ [c]) ∧ bFr W 1 h (h ++ [c]) := by
  have hx := bEx_app h c
  refine ⟨⟨by rw [List.length_append]; have := hH.1; omega, fun p d hd => ?_, ?_⟩, by rw [List.length_append]; omega, by rw [List.length_append]; exact Nat.le_refl _, fun p d hd => ⟨d, s_app_lt hd, bCf_refl _ _ _⟩⟩
  · by_cases e : p < h.length
    · rw [List.getElem?_append_left e] at hd
      obtain ⟨ct', h1, h2⟩ := hH.2.1 p d hd
      exact ⟨ct', h1, bCm_mono hx h2⟩
    · have hp : p = h.length := by
        have := (List.getElem?_eq_some_iff.mp hd).1
        rw [List.length_append] at this
        have e1 : [c].length = 1 := rfl
        omega
      subst hp
      rw [s_app_at] at hd
      cases hd
      exact ⟨ct, hk, hm⟩
  · obtain ⟨fs, f, g, a1, a2, a3, a4⟩ := hH.2.2
    exact ⟨fs, f, g, s_app_lt a1, s_app_lt a2, s_app_lt a3, a4⟩
theorem bKp_new {p : Nat} (hp : 79 ≤ p) (ci : Nat) (fs : List Value) : bKp p (.inr (ci, fs)) = 100 + ci := by
  unfold bKp
  rw [List.getElem?_eq_none_iff.mpr (show bKl.length ≤ p from hp)]
def cD (x y : Int32) : Int32 := x / y - x / y / (Int8.ofInt 10).toInt32 * (Int8.ofInt 10).toInt32
def cD1 (x : Int32) : Int32 := x - x / (Int8.ofInt 10).toInt32 * (Int8.ofInt 10).toInt32
def cutFs (s c : Int32) : List Value := [.int c, .int s, .int (cD c (Int8.ofInt 100).toInt32), .int (cD c (Int8.ofInt 10).toInt32), .int (cD1 c), .ref 3]
theorem cut_ty {ci : Nat} (h : ci ∈ bCutL) : sGrp ci = 2 ∧ ci < 11 ∧ (∀ x, sFit (sTy ci 0) (.int x) = true) ∧ (∀ x, sFit (sTy ci 1) (.int x) = true) ∧ (∀ x, sFit (sTy ci 2) (.int x) = true) ∧ (∀ x, sFit (sTy ci 3) (.int x) = true) ∧ (∀ x, sFit (sTy ci 4) (.int x) = true) ∧ (∀ x, sFit (sTy ci 5) (.ref x) = true) := by
  simp only [bCutL, List.mem_cons, List.not_mem_nil, or_false] at h
  rcases h with rfl | rfl | rfl | rfl | rfl | rfl | rfl <;> exact ⟨rfl, by decide, fun _ => rfl, fun _ => rfl, fun _ => rfl, fun _ => rfl, fun _ => rfl, fun _ => rfl⟩
theorem s_init9 {d : Nat} {h : sHp} {p ci : Nat} {f0 f1 f2 f3 f4 f5 : Value} {s c : Int32} {Q : Option Value → sHp → Prop} (hc : ci ∈ bCutL) (hp : h[p]? = some (.inr (ci, [f0, f1, f2, f3, f4, f5]))) (hQ : Q none (h.set p (.inr (ci, cutFs s c)))) : sDo (d + 1) 9 [.ref p, .int s, .int c, .ref 3] h Q := by
  obtain ⟨hg, -, t0, t1, t2, t3, t4, t5⟩ := cut_ty hc
  refine sDo_of (d := d) (nL := 4) (L := [some (.ref p), some (.int s), some (.int c), some (.ref 3)]) rfl rfl ?_
  refine g_aload_n (i := 0) rfl rfl ?_
  refine g_objinit rfl (Nat.le_of_ble_eq_true rfl) ?_
  refine g_aload_n (i := 0) rfl rfl ?_
  refine g_iload_n (i := 2) rfl rfl ?_
  refine g_putfield (h1 := h.set p (.inr (ci, [.int c, f1, f2, f3, f4, f5]))) rfl hp hg (Nat.le_of_ble_eq_true rfl) (t0 _) rfl ?_
  refine g_aload_n (i := 0) rfl rfl ?_
  refine g_iload_n (i := 1) rfl rfl ?_
  refine g_putfield (h1 := h.set p (.inr (ci, [.int c, .int s, f2, f3, f4, f5]))) rfl (s_set_eq hp) hg (Nat.le_of_ble_eq_true rfl) (t1 _) (List.set_set ..) ?_
  refine g_aload_n (i := 0) rfl rfl ?_
  refine g_iload_n (i := 2) rfl rfl ?_
  refine g_bipush (n := 100) rfl ?_
  refine g_idiv rfl (by decide) ?_
  refine g_bipush (n := 10) rfl ?_
  refine g_irem rfl (by decide) ?_
  refine g_putfield (h1 := h.set p (.inr (ci, [.int c, .int s, .int (cD c (Int8.ofInt 100).toInt32), f3, f4, f5]))) rfl (s_set_eq hp) hg (Nat.le_of_ble_eq_true rfl) (t2 _) (List.set_set ..) ?_
  refine g_aload_n (i := 0) rfl rfl ?_
  refine g_iload_n (i := 2) rfl rfl ?_
  refine g_bipush (n := 10) rfl ?_
  refine g_idiv rfl (by decide) ?_
  refine g_bipush (n := 10) rfl ?_
  refine g_irem rfl (by decide) ?_
  refine g_putfield (h1 := h.set p (.inr (ci, [.int c, .int s, .int (cD c (Int8.ofInt 100).toInt32), .int (cD c (Int8.ofInt 10).toInt32), f4, f5]))) rfl (s_set_eq hp) hg (Nat.le_of_ble_eq_true rfl) (t3 _) (List.set_set ..) ?_
  refine g_aload_n (i := 0) rfl rfl ?_
  refine g_iload_n (i := 2) rfl rfl ?_
  refine g_bipush (n := 10) rfl ?_
  refine g_irem rfl (by decide) ?_
  refine g_putfield (h1 := h.set p (.inr (ci, [.int c, .int s, .int (cD c (Int8.ofInt 100).toInt32), .int (cD c (Int8.ofInt 10).toInt32), .int (cD1 c), f5]))) rfl (s_set_eq hp) hg (Nat.le_of_ble_eq_true rfl) (t4 _) (List.set_set ..) ?_
  refine g_aload_n (i := 0) rfl rfl ?_
  refine g_aload_n (i := 3) rfl rfl ?_
  refine g_putfield (h1 := h.set p (.inr (ci, [.int c, .int s, .int (cD c (Int8.ofInt 100).toInt32), .int (cD c (Int8.ofInt 10).toInt32), .int (cD1 c), .ref 3]))) rfl (s_set_eq hp) hg (Nat.le_of_ble_eq_true rfl) (t5 _) (List.set_set ..) ?_
  refine g_return rfl rfl ?_
  exact hQ
theorem s_init104 {d : Nat} {h : sHp} {p ci : Nat} {f0 f1 f2 f3 f4 f5 : Value} {s c : Int32} {Q : Option Value → sHp → Prop} (hc : ci ∈ bCutL) (hp : h[p]? = some (.inr (ci, [f0, f1, f2, f3, f4, f5]))) (hQ : Q none (h.set p (.inr (ci, cutFs s c)))) : sDo (d + 2) 104 [.ref p, .int s, .int c, .ref 3] h Q := by
  refine sDo_of (d := d + 1) (nL := 4) (L := [some (.ref p), some (.int s), some (.int c), some (.ref 3)]) rfl rfl ?_
  refine g_aload_n (i := 0) rfl rfl ?_
  refine g_iload_n (i := 1) rfl rfl ?_
  refine g_iload_n (i := 2) rfl rfl ?_
  refine g_aload_n (i := 3) rfl rfl ?_
  refine g_init3 (k1 := 9) (Qc := fun r h' => r = none ∧ h' = h.set p (.inr (ci, cutFs s c))) rfl (by decide) rfl hp (Nat.le_of_ble_eq_true rfl) (s_init9 (d := d) hc hp ⟨rfl, rfl⟩) (fun r h1 hq => ?_)
  obtain ⟨rfl, rfl⟩ := hq
  refine g_return rfl rfl ?_
  exact hQ
theorem s_init5 {d : Nat} {h : sHp} {p ci : Nat} {f0 f1 f2 f3 f4 f5 : Value} {s c : Int32} {Q : Option Value → sHp → Prop} (hc : ci ∈ bCutL) (hp : h[p]? = some (.inr (ci, [f0, f1, f2, f3, f4, f5]))) (hQ : Q none (h.set p (.inr (ci, cutFs s c)))) : sDo (d + 2) 5 [.ref p, .int s, .int c, .ref 3] h Q := by
  refine sDo_of (d := d + 1) (nL := 4) (L := [some (.ref p), some (.int s), some (.int c), some (.ref 3)]) rfl rfl ?_
  refine g_aload_n (i := 0) rfl rfl ?_
  refine g_iload_n (i := 1) rfl rfl ?_
  refine g_iload_n (i := 2) rfl rfl ?_
  refine g_aload_n (i := 3) rfl rfl ?_
  refine g_init3 (k1 := 9) (Qc := fun r h' => r = none ∧ h' = h.set p (.inr (ci, cutFs s c))) rfl (by decide) rfl hp (Nat.le_of_ble_eq_true rfl) (s_init9 (d := d) hc hp ⟨rfl, rfl⟩) (fun r h1 hq => ?_)
  obtain ⟨rfl, rfl⟩ := hq
  refine g_return rfl rfl ?_
  exact hQ
theorem s_init59 {d : Nat} {h : sHp} {p ci : Nat} {f0 f1 f2 f3 f4 f5 : Value} {s c : Int32} {Q : Option Value → sHp → Prop} (hc : ci ∈ bCutL) (hp : h[p]? = some (.inr (ci, [f0, f1, f2, f3, f4, f5]))) (hQ : Q none (h.set p (.inr (ci, cutFs s c)))) : sDo (d + 2) 59 [.ref p, .int s, .int c, .ref 3] h Q := by
  refine sDo_of (d := d + 1) (nL := 4) (L := [some (.ref p), some (.int s), some (.int c), some (.ref 3)]) rfl rfl ?_
  refine g_aload_n (i := 0) rfl rfl ?_
  refine g_iload_n (i := 1) rfl rfl ?_
  refine g_iload_n (i := 2) rfl rfl ?_
  refine g_aload_n (i := 3) rfl rfl ?_
  refine g_init3 (k1 := 9) (Qc := fun r h' => r = none ∧ h' = h.set p (.inr (ci, cutFs s c))) rfl (by decide) rfl hp (Nat.le_of_ble_eq_true rfl) (s_init9 (d := d) hc hp ⟨rfl, rfl⟩) (fun r h1 hq => ?_)
  obtain ⟨rfl, rfl⟩ := hq
  refine g_return rfl rfl ?_
  exact hQ
theorem s_init0 {d : Nat} {h : sHp} {p ci : Nat} {f0 f1 f2 f3 f4 f5 : Value} {s c : Int32} {Q : Option Value → sHp → Prop} (hc : ci ∈ bCutL) (hp : h[p]? = some (.inr (ci, [f0, f1, f2, f3, f4, f5]))) (hQ : Q none (h.set p (.inr (ci, cutFs s c)))) : sDo (d + 3) 0 [.ref p, .int s, .int c, .ref 3] h Q := by
  refine sDo_of (d := d + 2) (nL := 4) (L := [some (.ref p), some (.int s), some (.int c), some (.ref 3)]) rfl rfl ?_
  refine g_aload_n (i := 0) rfl rfl ?_
  refine g_iload_n (i := 1) rfl rfl ?_
  refine g_iload_n (i := 2) rfl rfl ?_
  refine g_aload_n (i := 3) rfl rfl ?_
  refine g_init3 (k1 := 104) (Qc := fun r h' => r = none ∧ h' = h.set p (.inr (ci, cutFs s c))) rfl (by decide) rfl hp (Nat.le_of_ble_eq_true rfl) (s_init104 (d := d) hc hp ⟨rfl, rfl⟩) (fun r h1 hq => ?_)
  obtain ⟨rfl, rfl⟩ := hq
  refine g_return rfl rfl ?_
  exact hQ
theorem s_init55 {d : Nat} {h : sHp} {p ci : Nat} {f0 f1 f2 f3 f4 f5 : Value} {s c : Int32} {Q : Option Value → sHp → Prop} (hc : ci ∈ bCutL) (hp : h[p]? = some (.inr (ci, [f0, f1, f2, f3, f4, f5]))) (hQ : Q none (h.set p (.inr (ci, cutFs s c)))) : sDo (d + 3) 55 [.ref p, .int s, .int c, .ref 3] h Q := by
  refine sDo_of (d := d + 2) (nL := 4) (L := [some (.ref p), some (.int s), some (.int c), some (.ref 3)]) rfl rfl ?_
  refine g_aload_n (i := 0) rfl rfl ?_
  refine g_iload_n (i := 1) rfl rfl ?_
  refine g_iload_n (i := 2) rfl rfl ?_
  refine g_aload_n (i := 3) rfl rfl ?_
  refine g_init3 (k1 := 104) (Qc := fun r h' => r = none ∧ h' = h.set p (.inr (ci, cutFs s c))) rfl (by decide) rfl hp (Nat.le_of_ble_eq_true rfl) (s_init104 (d := d) hc hp ⟨rfl, rfl⟩) (fun r h1 hq => ?_)
  obtain ⟨rfl, rfl⟩ := hq
  refine g_return rfl rfl ?_
  exact hQ
theorem s_init108 {d : Nat} {h : sHp} {p ci : Nat} {f0 f1 f2 f3 f4 f5 : Value} {s c : Int32} {Q : Option Value → sHp → Prop} (hc : ci ∈ bCutL) (hp : h[p]? = some (.inr (ci, [f0, f1, f2, f3, f4, f5]))) (hQ : Q none (h.set p (.inr (ci, cutFs s c)))) : sDo (d + 3) 108 [.ref p, .int s, .int c, .ref 3] h Q := by
  refine sDo_of (d := d + 2) (nL := 4) (L := [some (.ref p), some (.int s), some (.int c), some (.ref 3)]) rfl rfl ?_
  refine g_aload_n (i := 0) rfl rfl ?_
  refine g_iload_n (i := 1) rfl rfl ?_
  refine g_iload_n (i := 2) rfl rfl ?_
  refine g_aload_n (i := 3) rfl rfl ?_
  refine g_init3 (k1 := 5) (Qc := fun r h' => r = none ∧ h' = h.set p (.inr (ci, cutFs s c))) rfl (by decide) rfl hp (Nat.le_of_ble_eq_true rfl) (s_init5 (d := d) hc hp ⟨rfl, rfl⟩) (fun r h1 hq => ?_)
  obtain ⟨rfl, rfl⟩ := hq
  refine g_return rfl rfl ?_
  exact hQ
theorem cut_bH {h : sHp} (hH : bH h) {ci : Nat} (hc : ci ∈ bCutL) {s c : Int32} (s0 : 0 ≤ s.toInt) (s7 : s.toInt ≤ 7) (W : Nat) : bH (h ++ [.inr (ci, cutFs s c)]) ∧ bFr W 1 h (h ++ [.inr (ci, cutFs s c)]) ∧ bIn (h ++ [.inr (ci, cutFs s c)]) 113 h.length := by
  have h79 := hH.1
  have hk : bKp h.length (.inr (ci, cutFs s c)) = 100 + ci := bKp_new h79 _ _
  have hx := bEx_app h (.inr (ci, cutFs s c))
  have h3 : bIn (h ++ [.inr (ci, cutFs s c)]) 3 3 := bIn_mono hx (bIn_at79 hH (by decide) rfl)
  have hg : bGam (100 + ci) = some (.inr (ci, [.inl (.negSucc 2147483647, .ofNat 2147483647), .inl (.ofNat 0, .ofNat 7), .inl (.negSucc 2147483647, .ofNat 2147483647), .inl (.negSucc 2147483647, .ofNat 2147483647), .inl (.negSucc 2147483647, .ofNat 2147483647), .inr (2, 3)])) ∧ bIsC (100 + ci) = true := by
    simp only [bCutL, List.mem_cons, List.not_mem_nil, or_false] at hc
    rcases hc with rfl | rfl | rfl | rfl | rfl | rfl | rfl <;> exact ⟨rfl, rfl⟩
  have hm : bCm (h ++ [.inr (ci, cutFs s c)]) (.inr (ci, [.inl (.negSucc 2147483647, .ofNat 2147483647), .inl (.ofNat 0, .ofNat 7), .inl (.negSucc 2147483647, .ofNat 2147483647), .inl (.negSucc 2147483647, .ofNat 2147483647), .inl (.negSucc 2147483647, .ofNat 2147483647), .inr (2, 3)])) (.inr (ci, cutFs s c)) := by
    refine ⟨cutFs s c, rfl, rfl, fun j ty hj => ?_⟩
    have full : ∀ x : Int32, bT (h ++ [.inr (ci, cutFs s c)]) (.inl (.negSucc 2147483647, .ofNat 2147483647)) (.int x) := fun x => ⟨x, rfl, (aFull_ok x).1, (aFull_ok x).2⟩
    match j, hj with
    | 0, hj => cases hj; exact ⟨_, rfl, full _⟩
    | 1, hj => cases hj; exact ⟨_, rfl, _, rfl, s0, s7⟩
    | 2, hj => cases hj; exact ⟨_, rfl, full _⟩
    | 3, hj => cases hj; exact ⟨_, rfl, full _⟩
    | 4, hj => cases hj; exact ⟨_, rfl, full _⟩
    | 5, hj => cases hj; exact ⟨_, rfl, 3, rfl, h3⟩
    | k + 6, hj => cases hj
  obtain ⟨a, b⟩ := bH_app hH (by rw [hk]; exact hg.1) hm W
  refine ⟨a, b, Or.inl ⟨_, s_app_at _ _, ?_⟩⟩
  rw [hk]
  unfold bKK
  rw [hg.2, Bool.or_eq_true]
  exact Or.inr rfl
theorem nc_sw {x : Int32} {h : sHp} {L : sLo} {Q : Option Value → sHp → Prop} {d : Nat} (k : ∀ pc, pc ∈ [44, 58, 72, 86, 100, 114, 128] → sGo none 164 d pc L [] h Q) : sGo none 164 d 5 L [.int x] h Q := by
  have hF : sFk 164 5 = some (.tableswitch 123 1 6 #[39, 53, 67, 81, 95, 109]) := rfl
  by_cases h1 : x.toInt < 1 ∨ 6 < x.toInt
  · refine go_jmp (pc1 := 128) (st1 := []) hF rfl ?_ (k 128 (by decide))
    show (if x.toInt < 1 ∨ 6 < x.toInt then (sTgt 5 123).map (fun t => (t, ([] : List Value))) else _) = _
    rw [if_pos h1]; rfl
  · have key : ∀ (n : Nat) (o : Int) (t : Nat), x.toInt = n + 1 → #[(39 : Int), 53, 67, 81, 95, 109][n]? = some o → sTgt 5 o = some t → t ∈ [44, 58, 72, 86, 100, 114, 128] → sGo none 164 d 5 L [.int x] h Q := by
      intro n o t hn ho ht hm
      refine go_jmp (pc1 := t) (st1 := []) hF rfl ?_ (k t hm)
      show (if x.toInt < 1 ∨ 6 < x.toInt then _ else (match #[(39 : Int), 53, 67, 81, 95, 109][(x.toInt - 1).toNat]? with
        | some off => (sTgt 5 off).map (fun t => (t, ([] : List Value)))
        | none => none)) = _
      rw [if_neg h1, show (x.toInt - 1).toNat = n by omega, ho]
      dsimp only
      rw [ht]; rfl
    have h2 : x.toInt = 1 ∨ x.toInt = 2 ∨ x.toInt = 3 ∨ x.toInt = 4 ∨ x.toInt = 5 ∨ x.toInt = 6 := by omega
    rcases h2 with e | e | e | e | e | e
    · exact key 0 39 44 e rfl rfl (by decide)
    · exact key 1 53 58 e rfl rfl (by decide)
    · exact key 2 67 72 e rfl rfl (by decide)
    · exact key 3 81 86 e rfl rfl (by decide)
    · exact key 4 95 100 e rfl rfl (by decide)
    · exact key 5 109 114 e rfl rfl (by decide)
def cn_X11_newCut_0 : bCn := (164, 4, [.inr (2, 0), .inl (.ofNat 0, .ofNat 7), .inl (.negSucc 2147483647, .ofNat 2147483647)], [], 0x0, 1, [(some (.inr (2, 113)), [])])
theorem s_newCut {d : Nat} {h : sHp} {s c : Int32} (hH : bH h) : sDo (d + 4) 164 [.ref 0, .int s, .int c] h (fun r h' => ∃ ci, ci ∈ bCutL ∧ r = some (.ref h.length) ∧ h' = h ++ [.inr (ci, cutFs s c)]) := by
  obtain ⟨fs, hf, -, hfs⟩ := bFldK hH (p := 0) (by decide) rfl
  obtain ⟨v2, f2, r2⟩ := hfs 2 _ rfl
  cases bT_one (by decide) (by decide +kernel) r2
  have h79 := hH.1
  refine sDo_of (d := d + 3) (nL := 3) (L := [some (.ref 0), some (.int s), some (.int c)]) rfl rfl ?_
  refine g_iload_n (i := 2) rfl rfl ?_
  refine g_sipush (n := 1000) rfl ?_
  refine g_idiv rfl (by decide) ?_
  refine nc_sw (fun pc hpc => ?_)
  simp only [List.mem_cons, List.not_mem_nil, or_false] at hpc
  rcases hpc with rfl | rfl | rfl | rfl | rfl | rfl | rfl
  · skip
    refine g_new (j := 9) rfl (by decide) ?_
    have hf2 : (h ++ [.inr (9, sDef 9)])[0]? = some (.inr (11, fs)) := s_app_lt hf
    have hp : (h ++ [.inr (9, sDef 9)])[h.length]? = some (.inr (9, [.int 0, .int 0, .int 0, .int 0, .int 0, .null])) := s_app_at _ _
    refine g_dup rfl rfl ?_
    refine g_iload_n (i := 1) rfl rfl ?_
    refine g_iload_n (i := 2) rfl rfl ?_
    refine g_aload_n (i := 0) rfl rfl ?_
    refine g_getfield (v := .ref 3) rfl hf2 (by decide) f2 ?_
    refine g_init3 (k1 := 104) (Qc := fun r h' => r = none ∧ h' = List.set (h ++ [(Sum.inr (9, sDef 9) : va_E)] : sHp) h.length (Sum.inr (9, cutFs s c))) rfl (by decide) rfl hp (Nat.le_of_ble_eq_true rfl) (sDo_up (d := 2) (by omega) (s_init104 (d := 0) (by decide) hp ⟨rfl, rfl⟩)) (fun r h1 hq => ?_)
    obtain ⟨rfl, rfl⟩ := hq
    refine g_areturn (C := RX2) rfl rfl ?_
    exact ⟨9, by decide, rfl, s_app_set _ _ _⟩
  · skip
    refine g_new (j := 1) rfl (by decide) ?_
    have hf2 : (h ++ [.inr (1, sDef 1)])[0]? = some (.inr (11, fs)) := s_app_lt hf
    have hp : (h ++ [.inr (1, sDef 1)])[h.length]? = some (.inr (1, [.int 0, .int 0, .int 0, .int 0, .int 0, .null])) := s_app_at _ _
    refine g_dup rfl rfl ?_
    refine g_iload_n (i := 1) rfl rfl ?_
    refine g_iload_n (i := 2) rfl rfl ?_
    refine g_aload_n (i := 0) rfl rfl ?_
    refine g_getfield (v := .ref 3) rfl hf2 (by decide) f2 ?_
    refine g_init3 (k1 := 5) (Qc := fun r h' => r = none ∧ h' = List.set (h ++ [(Sum.inr (1, sDef 1) : va_E)] : sHp) h.length (Sum.inr (1, cutFs s c))) rfl (by decide) rfl hp (Nat.le_of_ble_eq_true rfl) (sDo_up (d := 2) (by omega) (s_init5 (d := 0) (by decide) hp ⟨rfl, rfl⟩)) (fun r h1 hq => ?_)
    obtain ⟨rfl, rfl⟩ := hq
    refine g_areturn (C := RX2) rfl rfl ?_
    exact ⟨1, by decide, rfl, s_app_set _ _ _⟩
  · skip
    refine g_new (j := 5) rfl (by decide) ?_
    have hf2 : (h ++ [.inr (5, sDef 5)])[0]? = some (.inr (11, fs)) := s_app_lt hf
    have hp : (h ++ [.inr (5, sDef 5)])[h.length]? = some (.inr (5, [.int 0, .int 0, .int 0, .int 0, .int 0, .null])) := s_app_at _ _
    refine g_dup rfl rfl ?_
    refine g_iload_n (i := 1) rfl rfl ?_
    refine g_iload_n (i := 2) rfl rfl ?_
    refine g_aload_n (i := 0) rfl rfl ?_
    refine g_getfield (v := .ref 3) rfl hf2 (by decide) f2 ?_
    refine g_init3 (k1 := 59) (Qc := fun r h' => r = none ∧ h' = List.set (h ++ [(Sum.inr (5, sDef 5) : va_E)] : sHp) h.length (Sum.inr (5, cutFs s c))) rfl (by decide) rfl hp (Nat.le_of_ble_eq_true rfl) (sDo_up (d := 2) (by omega) (s_init59 (d := 0) (by decide) hp ⟨rfl, rfl⟩)) (fun r h1 hq => ?_)
    obtain ⟨rfl, rfl⟩ := hq
    refine g_areturn (C := RX2) rfl rfl ?_
    exact ⟨5, by decide, rfl, s_app_set _ _ _⟩
  · skip
    refine g_new (j := 0) rfl (by decide) ?_
    have hf2 : (h ++ [.inr (0, sDef 0)])[0]? = some (.inr (11, fs)) := s_app_lt hf
    have hp : (h ++ [.inr (0, sDef 0)])[h.length]? = some (.inr (0, [.int 0, .int 0, .int 0, .int 0, .int 0, .null])) := s_app_at _ _
    refine g_dup rfl rfl ?_
    refine g_iload_n (i := 1) rfl rfl ?_
    refine g_iload_n (i := 2) rfl rfl ?_
    refine g_aload_n (i := 0) rfl rfl ?_
    refine g_getfield (v := .ref 3) rfl hf2 (by decide) f2 ?_
    refine g_init3 (k1 := 0) (Qc := fun r h' => r = none ∧ h' = List.set (h ++ [(Sum.inr (0, sDef 0) : va_E)] : sHp) h.length (Sum.inr (0, cutFs s c))) rfl (by decide) rfl hp (Nat.le_of_ble_eq_true rfl) (sDo_up (d := 3) (by omega) (s_init0 (d := 0) (by decide) hp ⟨rfl, rfl⟩)) (fun r h1 hq => ?_)
    obtain ⟨rfl, rfl⟩ := hq
    refine g_areturn (C := RX2) rfl rfl ?_
    exact ⟨0, by decide, rfl, s_app_set _ _ _⟩
  · skip
    refine g_new (j := 4) rfl (by decide) ?_
    have hf2 : (h ++ [.inr (4, sDef 4)])[0]? = some (.inr (11, fs)) := s_app_lt hf
    have hp : (h ++ [.inr (4, sDef 4)])[h.length]? = some (.inr (4, [.int 0, .int 0, .int 0, .int 0, .int 0, .null])) := s_app_at _ _
    refine g_dup rfl rfl ?_
    refine g_iload_n (i := 1) rfl rfl ?_
    refine g_iload_n (i := 2) rfl rfl ?_
    refine g_aload_n (i := 0) rfl rfl ?_
    refine g_getfield (v := .ref 3) rfl hf2 (by decide) f2 ?_
    refine g_init3 (k1 := 55) (Qc := fun r h' => r = none ∧ h' = List.set (h ++ [(Sum.inr (4, sDef 4) : va_E)] : sHp) h.length (Sum.inr (4, cutFs s c))) rfl (by decide) rfl hp (Nat.le_of_ble_eq_true rfl) (sDo_up (d := 3) (by omega) (s_init55 (d := 0) (by decide) hp ⟨rfl, rfl⟩)) (fun r h1 hq => ?_)
    obtain ⟨rfl, rfl⟩ := hq
    refine g_areturn (C := RX2) rfl rfl ?_
    exact ⟨4, by decide, rfl, s_app_set _ _ _⟩
  · skip
    refine g_new (j := 10) rfl (by decide) ?_
    have hf2 : (h ++ [.inr (10, sDef 10)])[0]? = some (.inr (11, fs)) := s_app_lt hf
    have hp : (h ++ [.inr (10, sDef 10)])[h.length]? = some (.inr (10, [.int 0, .int 0, .int 0, .int 0, .int 0, .null])) := s_app_at _ _
    refine g_dup rfl rfl ?_
    refine g_iload_n (i := 1) rfl rfl ?_
    refine g_iload_n (i := 2) rfl rfl ?_
    refine g_aload_n (i := 0) rfl rfl ?_
    refine g_getfield (v := .ref 3) rfl hf2 (by decide) f2 ?_
    refine g_init3 (k1 := 108) (Qc := fun r h' => r = none ∧ h' = List.set (h ++ [(Sum.inr (10, sDef 10) : va_E)] : sHp) h.length (Sum.inr (10, cutFs s c))) rfl (by decide) rfl hp (Nat.le_of_ble_eq_true rfl) (sDo_up (d := 3) (by omega) (s_init108 (d := 0) (by decide) hp ⟨rfl, rfl⟩)) (fun r h1 hq => ?_)
    obtain ⟨rfl, rfl⟩ := hq
    refine g_areturn (C := RX2) rfl rfl ?_
    exact ⟨10, by decide, rfl, s_app_set _ _ _⟩
  · skip
    refine g_new (j := 2) rfl (by decide) ?_
    have hf2 : (h ++ [.inr (2, sDef 2)])[0]? = some (.inr (11, fs)) := s_app_lt hf
    have hp : (h ++ [.inr (2, sDef 2)])[h.length]? = some (.inr (2, [.int 0, .int 0, .int 0, .int 0, .int 0, .null])) := s_app_at _ _
    refine g_dup rfl rfl ?_
    refine g_iload_n (i := 1) rfl rfl ?_
    refine g_iload_n (i := 2) rfl rfl ?_
    refine g_aload_n (i := 0) rfl rfl ?_
    refine g_getfield (v := .ref 3) rfl hf2 (by decide) f2 ?_
    refine g_init3 (k1 := 9) (Qc := fun r h' => r = none ∧ h' = List.set (h ++ [(Sum.inr (2, sDef 2) : va_E)] : sHp) h.length (Sum.inr (2, cutFs s c))) rfl (by decide) rfl hp (Nat.le_of_ble_eq_true rfl) (sDo_up (d := 1) (by omega) (s_init9 (d := 0) (by decide) hp ⟨rfl, rfl⟩)) (fun r h1 hq => ?_)
    obtain ⟨rfl, rfl⟩ := hq
    refine g_areturn (C := RX2) rfl rfl ?_
    exact ⟨2, by decide, rfl, s_app_set _ _ _⟩
theorem ch_X11_newCut_0 : bHolds cn_X11_newCut_0 := by
  intro h vs hH ht hO
  rcases vs with _ | ⟨v0, _ | ⟨v1, _ | ⟨v2, _ | ⟨z, vs⟩⟩⟩⟩
  · exact False.elim ht
  · exact False.elim ht.2
  · exact False.elim ht.2.2
  · obtain ⟨q0, ⟨s, rfl, s0, s7⟩, ⟨c, rfl, -⟩, -⟩ := ht
    cases bT_one (by decide) (by decide +kernel) q0
    refine sDo_mono (s_newCut (d := 0) hH) (fun r h' hq => ?_)
    obtain ⟨ci, hc, rfl, rfl⟩ := hq
    obtain ⟨a1, a2, a3⟩ := cut_bH hH hc s0 s7 (c := c) cn_X11_newCut_0.2.2.2.2.1
    exact ⟨a1, a2, _, List.mem_cons_self, ⟨_, rfl, _, rfl, a3⟩, fun e he => by cases he⟩
  · exact False.elim ht.2.2.2
