/-! ===== own: the sixteen squares one after the other ===== -/
def owS : tM := .op2 .lor (.op2 .lshl (.op1 .i2l (.arg 1)) (.int 32)) (.op2 .land (.op1 .i2l (.arg 2)) (.long 4294967295))
def ow1 : tM := .op2 .lsub owS (.op2 .land (.op2 .lushr owS (.int 1)) (.long 6148914691236517205))
def ow2 : tM := .op2 .ladd (.op2 .land ow1 (.long 3689348814741910323)) (.op2 .land (.op2 .lushr ow1 (.int 2)) (.long 3689348814741910323))
def ow3 : tM := .op2 .land (.op2 .ladd ow2 (.op2 .lushr ow2 (.int 4))) (.long 1085102592571150095)
def ow4 : tM := .op2 .ladd ow3 (.op2 .lushr ow3 (.int 8))
def ow5 : tM := .op2 .ladd ow4 (.op2 .lushr ow4 (.int 16))
def ow6 : tM := .op2 .ladd ow5 (.op2 .lushr ow5 (.int 32))
def owT : tM := .op2 .iand (.op1 .l2i ow6) (.int 127)
theorem owT_ok (ι : aIn) : eT ι owT = .int (bc (vL (eT ι owS))) := rfl
def owH (c : Bool) : aHp := match c with
  | true => aSe aH0 15 (21, 7, [(5, .op2 .lor (.long 0) owS), (6, .op2 .land (.long 65535) (.op2 .lxor owS (.long (Int64.ofInt (-1)))))])
  | false => aSe aH0 15 (21, 7, [(6, .op2 .lor (.op2 .land (.long 65535) (.op2 .lxor owS (.long (Int64.ofInt (-1))))) owS)])
def owV (c : Bool) : Int := match c with
  | true => 9
  | false => -1
def owG (c : Bool) : aG := [(.op2 .lcmp (.op2 .land owS (.long (Int64.ofInt (-65536)))) (.long 0), 0, 0), (.arg 3, owV c, owV c), (.arg 10, 6, 6)]
def owX (c : Bool) : aTp5 := (980, aL0, [.arg 3, owS, .index 60, owT], owH c, owG c)
theorem ow_a : aRun true (aKx [owX true, owX false]) 6000 true 10 258 925 aL0 [] aH0 aG0 aK0 = true := by decide +kernel
def owB (q : Nat) : tM := .op2 .lcmp (.op2 .land (.op2 .lshr owS (.int (Int32.ofNat q))) (.long 1)) (.long 1)
def owL : Nat → List (Nat × tM)
  | 0 => (aCe aH0 63).2.2
  | q + 1 => aPt q (.arg (100 + q)) (owL q)
def owHq (c : Bool) (q : Nat) : aHp := aSe (owH c) 63 (20, 64, owL q)
def owHs (c : Bool) (q : Nat) : aHp := aSe (owH c) 63 (20, 64, aPt q (.arg 3) (owL q))
def owLo (q : Nat) : aLo := [some (.index 60), some owS, none, some (.arg 3), some (.int (Int32.ofNat q))]
def owXq (c : Bool) (q : Nat) : aTp5 := (25, owLo q, [], owHq c q, owG c)
def owXs (c : Bool) (q : Nat) : List aTp5 := [(25, owLo (q + 1), [], owHs c q, (owB q, 0, 0) :: owG c), (25, owLo (q + 1), [], owHq c q, (owB q, -1, -1) :: owG c), (25, owLo (q + 1), [], owHq c q, (owB q, 1, 1) :: owG c)]
def owR (c : Bool) (q : Nat) : Bool := aRun false (aKx (owXs c q)) 600 true 9 216 25 (owLo q) [] (owHq c q) (owG c) (aKs aH0 [])
theorem ow_t : (List.range 16).all (fun q => owR true q) = true := by decide +kernel
theorem ow_f : (List.range 16).all (fun q => owR false q) = true := by decide +kernel
theorem ow_r (c : Bool) {q : Nat} (h : q < 16) : owR c q = true := by
  cases c with
  | true => exact List.all_eq_true.mp ow_t q (List.mem_range.mpr h)
  | false => exact List.all_eq_true.mp ow_f q (List.mem_range.mpr h)
theorem ow_l : (List.range 16).all (fun q => tBq 4 (aGt (aAd 20) q (owL q)) (.int (Int32.ofInt (-1)))) = true := by decide +kernel
theorem ow_e0 (c : Bool) : aRun false (aKx [owXq c 0]) 600 true 9 216 0 [some (.index 60), some owS, none, some (.arg 3), none] [] (owH c) (owG c) (aKs aH0 []) = true := by cases c <;> decide +kernel
def owY (c : Bool) : aTp5 := (65, owLo 16, [owS, .index 60], owHq c 16, owG c)
theorem ow_e16 (c : Bool) : aRun false (aKx [owY c]) 600 true 9 216 25 (owLo 16) [] (owHq c 16) (owG c) (aKs aH0 []) = true := by cases c <;> decide +kernel
def owE (c : Bool) : aTp5 := (983, aL0, [.arg 20, .arg 20], owHq c 16, owG c)
theorem ow_z (c : Bool) : aRun true (aKx []) 6000 true 10 258 983 aL0 [.arg 20, .arg 20] (owHq c 16) (owG c) aK0 = true := by cases c <;> decide +kernel
theorem ow_u {ι : aIn} {q : Nat} {l : List (Nat × tM)} {v w : tM} (h : vI (eT ι v) = vI (eT ι w)) : eC ι (20, 64, aPt q v l) = eC ι (20, 64, aPt q w l) := by
  rw [eC_upI ι 20 64 (Or.inl rfl), eC_upI ι 20 64 (Or.inl rfl), h]
theorem ow_k {ι : aIn} {q : Nat} {l : List (Nat × tM)} {w : tM} (h : vI (eT ι (aGt (aAd 20) q l)) = vI (eT ι w)) : eC ι (20, 64, l) = eC ι (20, 64, aPt q w l) := by
  rw [eC_upI ι 20 64 (Or.inl rfl), eC_i ι (c := (20, 64, l)) (Or.inl rfl)]
  dsimp only
  congr 4
  funext i
  unfold upd
  by_cases e : i = q
  · rw [if_pos e, ← h, e]
  · rw [if_neg e]
def owI (ι : aIn) : Prop := ∀ q, q < 16 → ι.1 (100 + q) = if aZ ι (owB q) = 0 then ι.1 3 else Int32.ofInt (-1)
theorem ow_q {ι : aIn} {c : Bool} {Q : Option Value → sHp → Prop} (hι : owI ι) (hG : aOk ι (owG c)) (h16 : aPr ι none 216 9 Q (owXq c 16)) : ∀ n q, q + n = 16 → aPr ι none 216 9 Q (owXq c q) := by
  intro n
  induction n with
  | zero => intro q h; cases (show q = 16 by omega); exact h16
  | succ n ih =>
    intro q h
    have next := ih (q + 1) (by omega)
    have hq : q < 16 := by omega
    have ha : eT ι (.arg (100 + q)) = .int (if aZ ι (owB q) = 0 then ι.1 3 else Int32.ofInt (-1)) := by
      show (if 100 + q < 1000 then Value.int (ι.1 (100 + q)) else _) = _
      rw [if_pos (by omega), hι q hq]
    have unset : aZ ι (owB q) ≠ 0 → sGo none 216 9 25 (eL ι (owLo (q + 1))) [] (eH ι (owHq c q)) Q := by
      intro hb
      have e : eH ι (owHq c q) = eH ι (owHq c (q + 1)) := by
        unfold owHq
        rw [eH_set, eH_set, show owL (q + 1) = aPt q (.arg (100 + q)) (owL q) from rfl, ow_k (ι := ι) (q := q) (l := owL q) (w := .arg (100 + q))]
        rw [tBq_eq _ _ _ (List.all_eq_true.mp ow_l q (List.mem_range.mpr hq)), ha, if_neg hb]
        rfl
      rw [e]
      exact next
    refine a_blk (hE := aH0) (ts := []) (xs := owXs c q) (ow_r c hq) hG (fun x' hx ho => ?_) (fun e he => by cases he)
    simp only [owXs, List.mem_cons, List.not_mem_nil, or_false] at hx
    rcases hx with rfl | rfl | rfl
    · have hb : aZ ι (owB q) = 0 := by
        have := ho (owB q, 0, 0) List.mem_cons_self
        dsimp only at this
        omega
      have e : eH ι (owHs c q) = eH ι (owHq c (q + 1)) := by
        unfold owHq owHs
        rw [eH_set, eH_set, show owL (q + 1) = aPt q (.arg (100 + q)) (owL q) from rfl, ow_u (ι := ι) (v := .arg 3) (w := .arg (100 + q))]
        rw [ha, if_pos hb]
        rfl
      show sGo none 216 9 25 (eL ι (owLo (q + 1))) [] (eH ι (owHs c q)) Q
      rw [e]
      exact next
    · refine unset ?_
      have := ho (owB q, -1, -1) List.mem_cons_self
      dsimp only at this
      omega
    · refine unset ?_
      have := ho (owB q, 1, 1) List.mem_cons_self
      dsimp only at this
      omega
/-! the count -/
def aOp (n : Nat) : aHp := (n, (List.range 5).map (fun b => (b, (List.range 16).map (fun i => (b * 16 + i, (30, b * 16 + i, []))))))
theorem aOp_c : (List.range 79).all (fun a => match aCe (aOp 79) a with
  | (c, n, _) => Nat.beq c 30 && Nat.beq n a) = true := by decide +kernel
theorem aOp_ok {ι : aIn} {h : sHp} (hl : h.length = 79) (hι : ∀ a, ι.2.2 a = h.getD a (.inr (0, []))) : eH ι (aOp 79) = h := by
  have e : eH ι (aOp 79) = (List.range 79).map (fun a => h.getD a (.inr (0, []))) := by
    unfold eH
    refine List.map_congr_left (fun a ha => ?_)
    have h1 := List.all_eq_true.mp aOp_c a ha
    split at h1
    rename_i c n l hc
    obtain ⟨a1, a2⟩ := aBa h1
    rw [hc, ← hι a, ← aBt a2, aBt a1]
    rfl
  rw [e]
  apply List.ext_getElem?
  intro i
  by_cases hi : i < 79
  · rw [List.getElem?_map, List.getElem?_range hi, List.getElem?_eq_getElem (by omega)]
    show some (h.getD i _) = _
    rw [List.getD_eq_getElem?_getD, List.getElem?_eq_getElem (by omega)]
    rfl
  · rw [List.getElem?_eq_none (by rw [List.length_map, List.length_range]; omega), List.getElem?_eq_none (by omega)]
theorem lgc_0 {x y : Int64} (h : (lg_cmp x y).toInt = 0) : x = y := by
  unfold lg_cmp at h
  split at h
  · exact absurd h (by decide)
  · split at h
    · rename_i h2; exact h2
    · exact absurd h (by decide)
theorem lgc_n {x y : Int64} (h : (lg_cmp x y).toInt ≠ 0) : x ≠ y := by
  intro e
  subst e
  unfold lg_cmp at h
  split at h
  · rename_i h1
    have := Int64.lt_iff_toInt_lt.mp h1
    omega
  · split at h
    · exact h (by decide)
    · rename_i h2; exact h2 rfl
def mnL : aLo := [some (.index 60), some (.arg 1000), none, some (.arg 30), some (.arg 1001), none]
def mnK : aLo := [some (.index 60), some (.arg 1000), none, some (.add (.arg 30) (.int 1)), some (.op2 .land (.arg 1001) (.op2 .lsub (.arg 1001) (.long 1))), none]
def mnB : tM := .op2 .lcmp (.arg 1001) (.long 0)
def mnX : aTp5 := (5, mnL, [], aOp 79, [])
def mnXs : List aTp5 := [(5, mnK, [], aOp 79, [(mnB, -1, -1)]), (5, mnK, [], aOp 79, [(mnB, 1, 1)])]
def mnTs : List (tM × aG) := [(.arg 30, [(mnB, 0, 0)])]
theorem mn_r : aRun false (aKx mnXs) 600 true 8 176 5 mnL [] (aOp 79) [] (aKs (aOp 79) mnTs) = true := by decide +kernel
def mnI (s l : Int64) (n : Int32) (h : sHp) : aIn := (fun _ => n, fun i => match i with
  | 0 => s
  | _ => l, fun a => h.getD a (.inr (0, [])))
theorem mn_go {h : sHp} (hl : h.length = 79) {Q : Option Value → sHp → Prop} {s : Int64} {r : Int32} (hQ : Q (some (.int r)) h) : ∀ (f : Nat) (l : Int64) (n : Int32), kn f l n = some r → sGo none 176 8 5 [some (.ref 60), some (.long s), none, some (.int n), some (.long l), none] [] h Q := by
  intro f
  induction f with
  | zero => intro l n e; cases e
  | succ f ih =>
    intro l n e
    have hop := aOp_ok (ι := mnI s l n h) hl (fun _ => rfl)
    have next : l ≠ 0 → sGo none 176 8 5 (eL (mnI s l n h) mnK) [] (eH (mnI s l n h) (aOp 79)) Q := by
      intro h0
      unfold kn at e
      rw [if_neg h0] at e
      rw [hop]
      exact ih _ _ e
    have g : aPr (mnI s l n h) none 176 8 Q mnX := by
      refine a_blk (hE := aOp 79) (ts := mnTs) (xs := mnXs) mn_r (fun e he => by cases he) (fun x' hx ho => ?_) (fun e he ho => ?_)
      · simp only [mnXs, List.mem_cons, List.not_mem_nil, or_false] at hx
        rcases hx with rfl | rfl
        · refine next (lgc_n ?_)
          have := ho (mnB, -1, -1) List.mem_cons_self
          dsimp only at this
          change -1 ≤ (lg_cmp l 0).toInt ∧ (lg_cmp l 0).toInt ≤ -1 at this
          omega
        · refine next (lgc_n ?_)
          have := ho (mnB, 1, 1) List.mem_cons_self
          dsimp only at this
          change 1 ≤ (lg_cmp l 0).toInt ∧ (lg_cmp l 0).toInt ≤ 1 at this
          omega
      · simp only [mnTs, List.mem_cons, List.not_mem_nil, or_false] at he
        subst he
        have := ho (mnB, 0, 0) List.mem_cons_self
        dsimp only at this
        change 0 ≤ (lg_cmp l 0).toInt ∧ (lg_cmp l 0).toInt ≤ 0 at this
        have h0 : l = 0 := lgc_0 (by omega)
        unfold kn at e
        rw [if_pos h0] at e
        have e1 : n = r := Option.some.inj e
        rw [hop]
        show Q (some (.int n)) h
        rw [e1]
        exact hQ
    unfold aPr at g
    rw [show eH (mnI s l n h) mnX.2.2.2.1 = h from hop] at g
    exact g
/-! all of own -/
def owU (ι : aIn) : aIn := (fun i => if i = 20 then bc (vL (eT ι owS)) else (if 100 ≤ i then (if aZ ι (owB (i - 100)) = 0 then ι.1 3 else Int32.ofInt (-1)) else ι.1 i), ι.2.1, ι.2.2)
theorem owU_at (ι : aIn) {i : Nat} (h : i < 20) : (owU ι).1 i = ι.1 i := by
  show (if i = 20 then _ else (if 100 ≤ i then _ else ι.1 i)) = _
  rw [if_neg (by omega), if_neg (by omega)]
theorem owU_I (ι : aIn) : owI (owU ι) := by
  intro q hq
  show (if 100 + q = 20 then _ else (if 100 ≤ 100 + q then (if aZ ι (owB (100 + q - 100)) = 0 then ι.1 3 else Int32.ofInt (-1)) else ι.1 (100 + q))) = (if aZ ι (owB q) = 0 then ι.1 3 else Int32.ofInt (-1))
  rw [if_neg (by omega), if_pos (by omega), Nat.add_sub_cancel_left]
theorem owU_X {ι : aIn} {X : sX} (h : aHX ι X) : aHX (owU ι) X := by
  obtain ⟨N, xs, h1, h2, h3, h4⟩ := h
  exact ⟨N, xs, h1, h2, by rw [owU_at ι (by omega)]; exact h3, fun i hi => by rw [owU_at ι (by omega)]; exact h4 i hi⟩
theorem ow_call {ι : aIn} {c : Bool} (hι : owI ι) (hG : aOk ι (owG c)) : sDo 10 216 [.ref 60, eT ι owS, .int (ι.1 3)] (eH ι (owH c)) (fun r h => r = some (.int (bc (vL (eT ι owS)))) ∧ h = eH ι (owHq c 16)) := by
  have hl : (eH ι (owHq c 16)).length = 79 := by rw [eH_len]; cases c <;> rfl
  have hS : ∃ n, n < 65536 ∧ vL (eT ι owS) = i6 n := by
    have h := hG _ List.mem_cons_self
    dsimp only at h
    change 0 ≤ (lg_cmp (vL (eT ι owS) &&& Int64.ofInt (-65536)) 0).toInt ∧ (lg_cmp (vL (eT ι owS) &&& Int64.ofInt (-65536)) 0).toInt ≤ 0 at h
    exact set_i6 (lgc_0 (by omega))
  obtain ⟨n, hn, hS⟩ := hS
  have hk : kn 17 (vL (eT ι owS)) 0 = some (bc (vL (eT ι owS))) := by rw [hS]; exact kn_bc hn
  have h16 : aPr ι none 216 9 (fun r h => r = some (.int (bc (vL (eT ι owS)))) ∧ h = eH ι (owHq c 16)) (owXq c 16) := by
    refine a_blk (hE := aH0) (ts := []) (xs := [owY c]) (ow_e16 c) hG (fun x' hx ho => ?_) (fun e he => by cases he)
    cases List.mem_singleton.mp hx
    have hm : sDo 9 176 [.ref 60, eT ι owS] (eH ι (owHq c 16)) (fun r h => r = some (.int (bc (vL (eT ι owS)))) ∧ h = eH ι (owHq c 16)) := by
      refine sDo_of (nL := 6) (L := [some (.ref 60), some (eT ι owS), none, none, none, none]) (by decide +kernel) rfl ?_
      refine g_iconst (n := 0) (by decide +kernel) ?_
      refine g_istore_n (i := 3) (by decide +kernel) (by show 3 < 6; decide) rfl ?_
      refine g_lload_n (i := 1) (by decide +kernel) rfl ?_
      refine g_lstore (i := 4) (by decide +kernel) (by show 5 < 6; decide) rfl ?_
      exact mn_go hl ⟨rfl, rfl⟩ 17 _ 0 hk
    show sGo none 216 9 65 (eL ι (owLo 16)) [eT ι owS, .ref 60] (eH ι (owHq c 16)) _
    have hat : ∃ fs, (eH ι (owHq c 16))[60]? = some (.inr (12, fs)) := aObj_ok ι (by cases c <;> decide +kernel)
    obtain ⟨fs, hat⟩ := hat
    refine g_virt1 (ci := 12) (fs := fs) (by decide +kernel) (by decide) (by decide +kernel) hat (by decide +kernel) (by decide) hm ?_
    rintro r h1 ⟨rfl, rfl⟩
    exact g_ireturn (ty := .int) (by decide +kernel) (by decide +kernel) rfl ⟨rfl, rfl⟩
  refine sDo_of (nL := 5) (L := [some (.ref 60), some (eT ι owS), none, some (.int (ι.1 3)), none]) (by decide +kernel) rfl ?_
  have g : aPr ι none 216 9 (fun r h => r = some (.int (bc (vL (eT ι owS)))) ∧ h = eH ι (owHq c 16)) (0, [some (.index 60), some owS, none, some (.arg 3), none], [], owH c, owG c) := by
    refine a_blk (hE := aH0) (ts := []) (xs := [owXq c 0]) (ow_e0 c) hG (fun x' hx ho => ?_) (fun e he => by cases he)
    cases List.mem_singleton.mp hx
    exact ow_q hι hG h16 16 0 rfl
  exact g
theorem ow_c {ι : aIn} {X : sX} (HX : aHX ι X) (hz : aZok ι) (hι : owI ι) (h20 : ι.1 20 = bc (vL (eT ι owS))) (c : Bool) (hG : aOk ι (owG c)) : aPr ι X 258 10 aEnd (owX c) := by
  show sGo X 258 10 980 (eL ι aL0) [.int (ι.1 3), eT ι owS, .ref 60, .int (bc (vL (eT ι owS)))] (eH ι (owH c)) aEnd
  have hat : ∃ fs, (eH ι (owH c))[60]? = some (.inr (12, fs)) := aObj_ok ι (by cases c <;> decide +kernel)
  obtain ⟨fs, hat⟩ := hat
  refine g_virt2 (ci := 12) (fs := fs) (by decide +kernel) (by decide) (by decide +kernel) hat (by decide +kernel) (by show 1 ≤ 8; decide) (ow_call hι hG) ?_
  rintro r h1 ⟨rfl, rfl⟩
  have g := a_blkL HX hz (x := owE c) (xs := []) (ow_z c) hG (fun x' hx => by cases hx)
  unfold aPr at g
  rw [← h20]
  exact g
theorem a_c19 : aCase (aX0 925) := by
  intro ι X HX hz hG
  have g : aPr (owU ι) X 258 10 aEnd (aX0 925) := by
    have hG1 : aOk (owU ι) aG0 := by
      intro e he
      cases List.mem_singleton.mp he
      have h := hG _ List.mem_cons_self
      unfold aZ at h ⊢
      show (6 : Int) ≤ ((owU ι).1 10).toInt ∧ ((owU ι).1 10).toInt ≤ 6
      rw [owU_at ι (by omega)]
      exact h
    refine a_blkL (owU_X HX) hz (x := aX0 925) (xs := [owX true, owX false]) ow_a hG1 (fun x' hx ho => ?_)
    simp only [List.mem_cons, List.not_mem_nil, or_false] at hx
    rcases hx with rfl | rfl
    · exact ow_c (owU_X HX) hz (owU_I ι) rfl true ho
    · exact ow_c (owU_X HX) hz (owU_I ι) rfl false ho
  unfold aPr at g ⊢
  rw [aHcl_ok ι (owU ι) (h := (aX0 925).2.2.2.1) aH0_cl]
  exact g
