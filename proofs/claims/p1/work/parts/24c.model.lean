/-! ===== parts: the other's runs ===== -/
theorem i6_sar : ∀ q, q < 16 → ∀ a, a < 65536 → i6 a >>> ((Int32.ofNat q).toInt64 &&& 63) = i6 (a >>> q) := by
  intro q hq a ha
  have e : ∀ j, j < 16 → ((((Int32.ofNat j).toInt64 &&& 63).toBitVec.smod 64).toNat = j) := by decide
  apply i6_ext
  show (i6 a).toBitVec.sshiftRight' (((Int32.ofNat q).toInt64 &&& 63).toBitVec.smod 64) = _
  show (i6 a).toBitVec.sshiftRight (((Int32.ofNat q).toInt64 &&& 63).toBitVec.smod 64).toNat = _
  rw [e q hq, BitVec.sshiftRight_eq_of_msb_false]
  · apply BitVec.eq_of_toNat_eq
    rw [i6_bv, i6_bv, BitVec.toNat_ushiftRight, BitVec.toNat_ofNat, BitVec.toNat_ofNat, Nat.mod_eq_of_lt (by omega), Nat.mod_eq_of_lt]
    have := sr_le a q
    omega
  · rw [BitVec.msb_eq_false_iff_two_mul_lt, i6_bv, BitVec.toNat_ofNat, Nat.mod_eq_of_lt (by omega)]
    omega
def beB (q : Nat) : tM := .op2 .lcmp (.op2 .land (.op2 .lshr (.arg 1000) (.int (Int32.ofNat q))) (.long 1)) (.long 1)
def beM (l : List Nat) (t : tM) : tM := l.foldl (fun t c => .op2 .lor t (.long (Int64.ofNat c))) t
theorem beM_ok (ι : aIn) : ∀ (l : List Nat) (t : tM) (x : Nat), eT ι t = .long (i6 x) → eT ι (beM l t) = .long (i6 (orL l x)) := by
  intro l
  induction l with
  | nil => intro t x h; exact h
  | cons c r ih =>
    intro t x h
    refine ih _ (x ||| c) ?_
    show Value.long (vL (eT ι t) ||| Int64.ofNat c) = _
    rw [h]
    show Value.long (i6 x ||| i6 c) = _
    rw [i6_or]
def beL (q : Nat) (t : tM) : aLo := [some (.index 60), some (.arg 1000), none, some t, none, some (.int (Int32.ofNat q))]
def beY (q : Nat) : List pT := [(5, beL (q + 1) (beM (ptMk q) (.arg 1001)), [], [(beB q, 0, 0)]), (5, beL (q + 1) (.arg 1001), [], [(beB q, -1, -1)]), (5, beL (q + 1) (.arg 1001), [], [(beB q, 1, 1)])]
def beR (q : Nat) : Bool := aRun false (aKx ((beY q).map to5)) 600 true 6 222 5 (beL q (.arg 1001)) [] aH0 [] (aKs aH0 [])
theorem be_0 : (List.range 16).all beR = true := by decide +kernel
theorem be_16 : aRun false (aKx (([] : List pT).map to5)) 600 true 6 222 5 (beL 16 (.arg 1001)) [] aH0 [] (aKs aH0 [(.arg 1001, [])]) = true := by decide +kernel
theorem be_go {a : Nat} (ha : a < 65536) {Q : Option Value → sHp → Prop} : ∀ (n q x : Nat), q + n = 16 → Q (some (.long (i6 (bnF n q a x)))) pH → sGo none 222 6 5 [some (.ref 60), some (.long (i6 a)), none, some (.long (i6 x)), none, some (.int (Int32.ofNat q))] [] pH Q := by
  intro n
  induction n with
  | zero =>
    intro q x h hQ
    cases (show q = 16 by omega)
    refine pt_blk (pI 0 (i6 a) (i6 x) 0 0 0) be_16 (fun q hq => by cases hq) (fun y hy ho => by cases hy) (fun t ht ho => ?_)
    cases List.mem_singleton.mp ht
    exact hQ
  | succ n ih =>
    intro q x h hQ
    have hq : q < 16 := by omega
    have hr : beR q = true := List.all_eq_true.mp be_0 q (List.mem_range.mpr hq)
    have hb : i6 a >>> ((Int32.ofNat q).toInt64 &&& 63) &&& 1 = i6 (a >>> q &&& 1) := by
      rw [i6_sar q hq a ha, show (1 : Int64) = i6 1 from rfl, i6_and]
    have hlt : (a >>> q &&& 1) < 65536 := Nat.lt_of_le_of_lt Nat.and_le_right (by decide)
    unfold bnF at hQ
    have unset : (lg_cmp (i6 a >>> ((Int32.ofNat q).toInt64 &&& 63) &&& 1) 1).toInt ≠ 0 → sGo none 222 6 5 (eL (pI 0 (i6 a) (i6 x) 0 0 0) (beL (q + 1) (.arg 1001))) [] pH Q := by
      intro h1
      have h2 : Nat.beq (a >>> q &&& 1) 1 = false := by
        rw [aBq, decide_eq_false]
        intro e
        refine lgc_n h1 ?_
        rw [hb, e]; rfl
      rw [h2] at hQ
      exact ih (q + 1) x (by omega) hQ
    refine pt_blk (pI 0 (i6 a) (i6 x) 0 0 0) (L := beL q (.arg 1001)) hr (fun q hq => by cases hq) (fun y hy ho => ?_) (fun t ht => by cases ht)
    simp only [beY, List.mem_cons, List.not_mem_nil, or_false] at hy
    rcases hy with rfl | rfl | rfl
    · have h1 := ho (beB q, 0, 0) List.mem_cons_self
      change 0 ≤ (lg_cmp (i6 a >>> ((Int32.ofNat q).toInt64 &&& 63) &&& 1) 1).toInt ∧ (lg_cmp (i6 a >>> ((Int32.ofNat q).toInt64 &&& 63) &&& 1) 1).toInt ≤ 0 at h1
      have h2 : i6 (a >>> q &&& 1) = i6 1 := by
        rw [← hb]
        exact lgc_0 (x := i6 a >>> ((Int32.ofNat q).toInt64 &&& 63) &&& 1) (y := 1) (by omega)
      have h3 : Nat.beq (a >>> q &&& 1) 1 = true := by
        rw [aBq, decide_eq_true (i6_inj hlt (by decide) h2)]
      rw [h3] at hQ
      have e : eL (pI 0 (i6 a) (i6 x) 0 0 0) (beL (q + 1) (beM (ptMk q) (.arg 1001))) = [some (.ref 60), some (.long (i6 a)), none, some (.long (i6 (orL (ptMk q) x))), none, some (.int (Int32.ofNat (q + 1)))] := by
        show [some (Value.ref 60), some (Value.long (i6 a)), none, some (eT (pI 0 (i6 a) (i6 x) 0 0 0) (beM (ptMk q) (.arg 1001))), none, some (Value.int (Int32.ofNat (q + 1)))] = _
        rw [beM_ok (pI 0 (i6 a) (i6 x) 0 0 0) (ptMk q) (.arg 1001) x rfl]
      show sGo none 222 6 5 (eL (pI 0 (i6 a) (i6 x) 0 0 0) (beL (q + 1) (beM (ptMk q) (.arg 1001)))) [] pH Q
      rw [e]
      exact ih (q + 1) _ (by omega) hQ
    · refine unset ?_
      have h1 := ho (beB q, -1, -1) List.mem_cons_self
      change -1 ≤ (lg_cmp (i6 a >>> ((Int32.ofNat q).toInt64 &&& 63) &&& 1) 1).toInt ∧ (lg_cmp (i6 a >>> ((Int32.ofNat q).toInt64 &&& 63) &&& 1) 1).toInt ≤ -1 at h1
      omega
    · refine unset ?_
      have h1 := ho (beB q, 1, 1) List.mem_cons_self
      change 1 ≤ (lg_cmp (i6 a >>> ((Int32.ofNat q).toInt64 &&& 63) &&& 1) 1).toInt ∧ (lg_cmp (i6 a >>> ((Int32.ofNat q).toInt64 &&& 63) &&& 1) 1).toInt ≤ 1 at h1
      omega
theorem be_e : aRun false (aKx ([(5, beL 0 (.long 0), [], [])].map to5)) 600 true 6 222 0 [some (.index 60), some (.arg 1000), none, none, none, none] [] aH0 [] (aKs aH0 []) = true := by decide +kernel
theorem be_do {a : Nat} (ha : a < 65536) : sDo 7 222 [.ref 60, .long (i6 a)] pH (pQ (.long (i6 (bnN a)))) := by
  refine sDo_of (nL := 6) (L := [some (.ref 60), some (.long (i6 a)), none, none, none, none]) (by decide +kernel) rfl ?_
  refine pt_blk (pI 0 (i6 a) 0 0 0 0) be_e (fun q hq => by cases hq) (fun y hy ho => ?_) (fun t ht => by cases ht)
  cases List.mem_singleton.mp hy
  exact be_go ha 16 0 0 rfl ⟨rfl, rfl⟩
/-! grown -/
def gmL (a b : Option tM) : aLo := [some (.index 60), some (.arg 1000), none, some (.arg 1001), none, a, none, b, none]
def gmB : tM := .op2 .lcmp (.arg 1003) (.arg 1002)
def gmY : List pT := [(35, gmL (some (.arg 1003)) (some (.arg 1003)), [.arg 1003, .index 60, .arg 1003], [(gmB, -1, -1)]), (35, gmL (some (.arg 1003)) (some (.arg 1003)), [.arg 1003, .index 60, .arg 1003], [(gmB, 1, 1)])]
def gmT : List (tM × aG) := [(.arg 1002, [(gmB, 0, 0)])]
theorem gm_0 : aRun false (aKx (gmY.map to5)) 600 true 7 223 18 (gmL (some (.arg 1002)) (some (.arg 1003))) [] aH0 [] (aKs aH0 gmT) = true := by decide +kernel
theorem gm_1 : aRun false (aKx ([(18, gmL (some (.arg 1002)) (some (.op2 .lor (.arg 1002) (.op2 .land (.arg 1004) (.arg 1001)))), [], [])].map to5)) 600 true 7 223 38 (gmL (some (.arg 1002)) (some (.arg 1003))) [.arg 1004, .arg 1002] aH0 [] (aKs aH0 []) = true := by decide +kernel
theorem gm_2 : aRun false (aKx ([(10, gmL (some (.op2 .land (.arg 1000) (.arg 1001))) none, [.op2 .land (.arg 1000) (.arg 1001), .index 60, .op2 .land (.arg 1000) (.arg 1001)], [])].map to5)) 600 true 7 223 0 (gmL none none) [] aH0 [] (aKs aH0 []) = true := by decide +kernel
theorem gm_3 : aRun false (aKx ([(18, gmL (some (.arg 1002)) (some (.op2 .lor (.arg 1002) (.op2 .land (.arg 1004) (.arg 1001)))), [], [])].map to5)) 600 true 7 223 13 (gmL (some (.arg 1002)) none) [.arg 1004, .arg 1002] aH0 [] (aKs aH0 []) = true := by decide +kernel
theorem nx_i6 (b a : Nat) : i6 a ||| (i6 (bnN a) &&& i6 b) = i6 (nx b a) := by rw [i6_and, i6_or]; rfl
theorem gm_go {b : Nat} (hb : b < 65536) {p : Int64} {r : Nat} : ∀ (f a : Nat), gN f b a = some r → sub a b → sGo none 223 7 18 [some (.ref 60), some (.long p), none, some (.long (i6 b)), none, some (.long (i6 a)), none, some (.long (i6 (nx b a))), none] [] pH (pQ (.long (i6 r))) := by
  intro f
  induction f with
  | zero => intro a e; cases e
  | succ f ih =>
    intro a e ha
    have hal := sub_lt ha hb
    have hnl := sub_lt (nx_in ha) hb
    have call : nx b a ≠ a → sGo none 223 7 35 [some (.ref 60), some (.long p), none, some (.long (i6 b)), none, some (.long (i6 (nx b a))), none, some (.long (i6 (nx b a))), none] [.long (i6 (nx b a)), .ref 60, .long (i6 (nx b a))] pH (pQ (.long (i6 r))) := by
      intro h0
      unfold gN at e
      rw [if_neg h0] at e
      obtain ⟨fs, hat⟩ := pH_12
      refine g_virt1 (ci := 12) (fs := fs) (by decide +kernel) (by decide) (by decide +kernel) hat (by decide +kernel) (by show 2 ≤ 8; decide) (be_do hnl) ?_
      rintro z h1 ⟨rfl, rfl⟩
      refine pt_blk (pI 0 p (i6 b) (i6 (nx b a)) (i6 (nx b a)) (i6 (bnN (nx b a)))) (st := [.arg 1004, .arg 1002]) gm_1 (fun q hq => by cases hq) (fun y hy ho => ?_) (fun t ht => by cases ht)
      cases List.mem_singleton.mp hy
      show sGo none 223 7 18 [some (.ref 60), some (.long p), none, some (.long (i6 b)), none, some (.long (i6 (nx b a))), none, some (.long (i6 (nx b a) ||| (i6 (bnN (nx b a)) &&& i6 b))), none] [] pH _
      rw [nx_i6]
      exact ih (nx b a) e (nx_in ha)
    have ne : (lg_cmp (i6 (nx b a)) (i6 a)).toInt ≠ 0 → nx b a ≠ a := by
      intro h1 h2
      refine lgc_n h1 ?_
      rw [h2]
    refine pt_blk (pI 0 p (i6 b) (i6 a) (i6 (nx b a)) 0) gm_0 (fun q hq => by cases hq) (fun y hy ho => ?_) (fun t ht ho => ?_)
    · simp only [gmY, List.mem_cons, List.not_mem_nil, or_false] at hy
      rcases hy with rfl | rfl
      · refine call (ne ?_)
        have := ho (gmB, -1, -1) List.mem_cons_self
        change -1 ≤ (lg_cmp (i6 (nx b a)) (i6 a)).toInt ∧ (lg_cmp (i6 (nx b a)) (i6 a)).toInt ≤ -1 at this
        omega
      · refine call (ne ?_)
        have := ho (gmB, 1, 1) List.mem_cons_self
        change 1 ≤ (lg_cmp (i6 (nx b a)) (i6 a)).toInt ∧ (lg_cmp (i6 (nx b a)) (i6 a)).toInt ≤ 1 at this
        omega
    · cases List.mem_singleton.mp ht
      have := ho (gmB, 0, 0) List.mem_cons_self
      change 0 ≤ (lg_cmp (i6 (nx b a)) (i6 a)).toInt ∧ (lg_cmp (i6 (nx b a)) (i6 a)).toInt ≤ 0 at this
      have h0 : nx b a = a := i6_inj hnl hal (lgc_0 (by omega))
      unfold gN at e
      rw [if_pos h0] at e
      cases e
      exact ⟨rfl, rfl⟩
theorem gm_do {b a r : Nat} (hb : b < 65536) (ha : sub a b) (e : gN 17 b a = some r) : sDo 8 223 [.ref 60, .long (i6 a), .long (i6 b)] pH (pQ (.long (i6 r))) := by
  refine sDo_of (nL := 9) (L := [some (.ref 60), some (.long (i6 a)), none, some (.long (i6 b)), none, none, none, none, none]) (by decide +kernel) rfl ?_
  refine pt_blk (pI 0 (i6 a) (i6 b) 0 0 0) gm_2 (fun q hq => by cases hq) (fun y hy ho => ?_) (fun t ht => by cases ht)
  cases List.mem_singleton.mp hy
  have e1 : i6 a &&& i6 b = i6 a := by rw [i6_and]; exact congrArg i6 ha
  show sGo none 223 7 10 [some (.ref 60), some (.long (i6 a)), none, some (.long (i6 b)), none, some (.long (i6 a &&& i6 b)), none, none, none] [.long (i6 a &&& i6 b), .ref 60, .long (i6 a &&& i6 b)] pH _
  rw [e1]
  obtain ⟨fs, hat⟩ := pH_12
  refine g_virt1 (ci := 12) (fs := fs) (by decide +kernel) (by decide) (by decide +kernel) hat (by decide +kernel) (by show 2 ≤ 8; decide) (be_do (sub_lt ha hb)) ?_
  rintro z h1 ⟨rfl, rfl⟩
  refine pt_blk (pI 0 (i6 a) (i6 b) (i6 a) 0 (i6 (bnN a))) (st := [.arg 1004, .arg 1002]) gm_3 (fun q hq => by cases hq) (fun y hy ho => ?_) (fun t ht => by cases ht)
  cases List.mem_singleton.mp hy
  show sGo none 223 7 18 [some (.ref 60), some (.long (i6 a)), none, some (.long (i6 b)), none, some (.long (i6 a)), none, some (.long (i6 a ||| (i6 (bnN a) &&& i6 b))), none] [] pH _
  rw [nx_i6]
  exact gm_go hb 17 a e ha
/-! partsOf -/
def pmL : aLo := [some (.index 60), some (.arg 1000), none, some (.arg 32), some (.arg 1001), none]
def pmSt : List tM := [.arg 1001, .op2 .land (.arg 1001) (.op1 .lneg (.arg 1001)), .index 60, .arg 1001]
def pmY : List pT := [(23, pmL, pmSt, [(pcB, -1, -1)]), (23, pmL, pmSt, [(pcB, 1, 1)])]
theorem pm_0 : aRun false (aKx (pmY.map to5)) 600 true 8 224 5 pmL [] aH0 [] (aKs aH0 pcT) = true := by decide +kernel
theorem pm_1 : aRun false (aKx ([(5, [some (.index 60), some (.arg 1000), none, some (.add (.arg 32) (.int 1)), some (.op2 .land (.arg 1001) (.op2 .lxor (.arg 1003) (.long (Int64.ofInt (-1))))), none], [], [])].map to5)) 600 true 8 224 26 pmL [.arg 1003, .arg 1001] aH0 [] (aKs aH0 []) = true := by decide +kernel
theorem pm_2 : aRun false (aKx ([(5, [some (.index 60), some (.arg 1000), none, some (.int 0), some (.arg 1000), none], [], [])].map to5)) 600 true 8 224 0 [some (.index 60), some (.arg 1000), none, none, none, none] [] aH0 [] (aKs aH0 []) = true := by decide +kernel
theorem pm_go {S : Int64} {k : Nat} : ∀ (f r n : Nat), pN f r n = some k → r < 65536 → sGo none 224 8 5 [some (.ref 60), some (.long S), none, some (.int (Int32.ofNat n)), some (.long (i6 r)), none] [] pH (pQ (.int (Int32.ofNat k))) := by
  intro f
  induction f with
  | zero => intro r n e; cases e
  | succ f ih =>
    intro r n e hr
    have call : r ≠ 0 → sGo none 224 8 23 [some (.ref 60), some (.long S), none, some (.int (Int32.ofNat n)), some (.long (i6 r)), none] [.long (i6 r), .long (i6 r &&& -(i6 r)), .ref 60, .long (i6 r)] pH (pQ (.int (Int32.ofNat k))) := by
      intro h0
      unfold pN at e
      rw [if_neg h0] at e
      split at e
      · rename_i g hg
        obtain ⟨fs, hat⟩ := pH_12
        rw [low_i6 hr]
        refine g_virt2 (ci := 12) (fs := fs) (by decide +kernel) (by decide) (by decide +kernel) hat (by decide +kernel) (by show 2 ≤ 8; decide) (gm_do hr (low_sub r) hg) ?_
        rintro z h1 ⟨rfl, rfl⟩
        refine pt_blk (pI (Int32.ofNat n) S (i6 r) 0 (i6 g) 0) (st := [.arg 1003, .arg 1001]) pm_1 (fun q hq => by cases hq) (fun y hy ho => ?_) (fun t ht => by cases ht)
        cases List.mem_singleton.mp hy
        have gg := ih (rmN r g) (n + 1) e (sub_lt (rm_sub r g) hr)
        show sGo none 224 8 5 [some (.ref 60), some (.long S), none, some (.int (Int32.ofNat n + 1)), some (.long (i6 r &&& (i6 g ^^^ Int64.ofInt (-1)))), none] [] pH _
        rw [rm_i6, show Int32.ofNat n + 1 = Int32.ofNat (n + 1) from (Int32.ofNat_add n 1).symm]
        exact gg
      · cases e
    have ne : (lg_cmp (i6 r) 0).toInt ≠ 0 → r ≠ 0 := by
      intro h1 h2
      exact lgc_n h1 ((i6_0 hr).mpr h2)
    refine pt_blk (pI (Int32.ofNat n) S (i6 r) 0 0 0) pm_0 (fun q hq => by cases hq) (fun y hy ho => ?_) (fun t ht ho => ?_)
    · simp only [pmY, List.mem_cons, List.not_mem_nil, or_false] at hy
      rcases hy with rfl | rfl
      · refine call (ne ?_)
        have := ho (pcB, -1, -1) List.mem_cons_self
        change -1 ≤ (lg_cmp (i6 r) 0).toInt ∧ (lg_cmp (i6 r) 0).toInt ≤ -1 at this
        omega
      · refine call (ne ?_)
        have := ho (pcB, 1, 1) List.mem_cons_self
        change 1 ≤ (lg_cmp (i6 r) 0).toInt ∧ (lg_cmp (i6 r) 0).toInt ≤ 1 at this
        omega
    · cases List.mem_singleton.mp ht
      have := ho (pcB, 0, 0) List.mem_cons_self
      change 0 ≤ (lg_cmp (i6 r) 0).toInt ∧ (lg_cmp (i6 r) 0).toInt ≤ 0 at this
      have h0 : r = 0 := (i6_0 hr).mp (lgc_0 (by omega))
      unfold pN at e
      rw [if_pos h0] at e
      cases e
      exact ⟨rfl, rfl⟩
theorem pm_do {s k : Nat} (hs : s < 65536) (e : pN 17 s 0 = some k) : sDo 9 224 [.ref 60, .long (i6 s)] pH (pQ (.int (Int32.ofNat k))) := by
  refine sDo_of (nL := 6) (L := [some (.ref 60), some (.long (i6 s)), none, none, none, none]) (by decide +kernel) rfl ?_
  refine pt_blk (pI 0 (i6 s) 0 0 0 0) pm_2 (fun q hq => by cases hq) (fun y hy ho => ?_) (fun t ht => by cases ht)
  cases List.mem_singleton.mp hy
  exact pm_go 17 s 0 e hs
theorem pa_m : aRun false (aKx ([(10, [some (.index 60), some (.arg 1000), none], [.arg 1000, .index 60], [(paB, 0, 0)])].map to5)) 600 true 9 225 0 [some (.index 60), some (.arg 1000), none] [] aH0 [] (aKs aH0 paT) = true := by decide +kernel
theorem pb_do {S : Int64} {v : Int32} (hv : paV S v) : sDo 10 225 [.ref 60, .long S] pH (pQ (.int v)) := by
  refine sDo_of (nL := 3) (L := [some (.ref 60), some (.long S), none]) (by decide +kernel) rfl ?_
  refine pt_blk (pI 0 S 0 0 0 0) pa_m (fun q hq => by cases hq) (fun y hy ho => ?_) (fun t ht ho => ?_)
  · cases List.mem_singleton.mp hy
    have := ho (paB, 0, 0) List.mem_cons_self
    change 0 ≤ (lg_cmp (S &&& Int64.ofInt (-65536)) 0).toInt ∧ (lg_cmp (S &&& Int64.ofInt (-65536)) 0).toInt ≤ 0 at this
    obtain ⟨s, k, hs, rfl, hk, rfl⟩ := pa_f hv (lgc_0 (by omega))
    obtain ⟨fs, hat⟩ := pH_12
    show sGo none 225 9 10 [some (.ref 60), some (.long (i6 s)), none] [.long (i6 s), .ref 60] pH _
    refine g_virt1 (ci := 12) (fs := fs) (by decide +kernel) (by decide) (by decide +kernel) hat (by decide +kernel) (by decide) (pm_do hs hk) ?_
    rintro z h1 ⟨rfl, rfl⟩
    refine g_goto (off := 4) 17 (by decide +kernel) (by decide) ?_
    exact g_ireturn (ty := .int) (by decide +kernel) (by decide +kernel) rfl ⟨rfl, rfl⟩
  · have hz : (lg_cmp (S &&& Int64.ofInt (-65536)) 0).toInt ≠ 0 → pQ (.int v) (some (.int 0)) pH := fun h1 => by
      rw [pa_z hv (lgc_n h1)]
      exact ⟨rfl, rfl⟩
    simp only [paT, List.mem_cons, List.not_mem_nil, or_false] at ht
    rcases ht with rfl | rfl
    · refine hz ?_
      have := ho (paB, -1, -1) List.mem_cons_self
      change -1 ≤ (lg_cmp (S &&& Int64.ofInt (-65536)) 0).toInt ∧ (lg_cmp (S &&& Int64.ofInt (-65536)) 0).toInt ≤ -1 at this
      omega
    · refine hz ?_
      have := ho (paB, 1, 1) List.mem_cons_self
      change 1 ≤ (lg_cmp (S &&& Int64.ofInt (-65536)) 0).toInt ∧ (lg_cmp (S &&& Int64.ofInt (-65536)) 0).toInt ≤ 1 at this
      omega
/-! the law's own run at parts -/
def paX : aTp5 := (1138, aL0, [owS, .index 0], aH0, aG0)
def paW : aTp5 := (1162, aL0, [owS, .index 60, .arg 20], aH0, aG0)
theorem pl_0 : aRun true (aKx [paX]) 6000 true 10 258 1117 aL0 [] aH0 aG0 aK0 = true := by decide +kernel
theorem pl_1 : aRun true (aKx [paW]) 6000 true 10 258 1141 aL0 [.arg 20] aH0 aG0 aK0 = true := by decide +kernel
theorem pl_2 : aRun true (aKx []) 6000 true 10 258 1165 aL0 [.arg 20, .arg 20] aH0 aG0 aK0 = true := by decide +kernel
def plU (ι : aIn) (v : Int32) : aIn := (fun i => if i = 20 then v else ι.1 i, ι.2.1, ι.2.2)
theorem plU_X {ι : aIn} {X : sX} (v : Int32) (h : aHX ι X) : aHX (plU ι v) X := by
  obtain ⟨N, xs, h1, h2, h3, h4⟩ := h
  refine ⟨N, xs, h1, h2, h3, fun i hi => ?_⟩
  show (if i = 20 then v else ι.1 i) = _
  rw [if_neg (by omega)]
  exact h4 i hi
theorem a_c26 : aCase (aX0 1117) := by
  intro ι X HX hz hG
  obtain ⟨v, hv⟩ := paV_ex (vL (eT ι owS))
  have HX1 := plU_X v HX
  have hz1 : aZok (plU ι v) := hz
  have hG1 : aOk (plU ι v) aG0 := by
    intro e he
    cases List.mem_singleton.mp he
    exact hG _ List.mem_cons_self
  have hH : ∀ ι, eH ι aH0 = pH := fun ι => aHcl_ok _ _ aH0_cl
  have g : aPr (plU ι v) X 258 10 aEnd (aX0 1117) := by
    refine a_blkL HX1 hz1 (x := aX0 1117) (xs := [paX]) pl_0 hG1 (fun x' hx ho => ?_)
    cases List.mem_singleton.mp hx
    show sGo X 258 10 1138 (eL (plU ι v) aL0) [.long (vL (eT ι owS)), .ref 0] (eH (plU ι v) aH0) aEnd
    rw [hH]
    obtain ⟨fs, hat⟩ := pH_11
    refine g_virt1 (ci := 11) (fs := fs) (by decide +kernel) (by decide) (by decide +kernel) hat (by decide +kernel) (by decide) (pa_do hv) ?_
    rintro z h1 ⟨rfl, rfl⟩
    have g1 : aPr (plU ι v) X 258 10 aEnd (1141, aL0, [.arg 20], aH0, aG0) := by
      refine a_blkL HX1 hz1 (x := (1141, aL0, [.arg 20], aH0, aG0)) (xs := [paW]) pl_1 hG1 (fun x' hx ho => ?_)
      cases List.mem_singleton.mp hx
      show sGo X 258 10 1162 (eL (plU ι v) aL0) [.long (vL (eT ι owS)), .ref 60, .int v] (eH (plU ι v) aH0) aEnd
      rw [hH]
      obtain ⟨fs, hat⟩ := pH_12
      refine g_virt1 (ci := 12) (fs := fs) (by decide +kernel) (by decide) (by decide +kernel) hat (by decide +kernel) (by show 1 ≤ 8; decide) (pb_do hv) ?_
      rintro z h1 ⟨rfl, rfl⟩
      have g2 : aPr (plU ι v) X 258 10 aEnd (1165, aL0, [.arg 20, .arg 20], aH0, aG0) := a_blkL HX1 hz1 (x := (1165, aL0, [.arg 20, .arg 20], aH0, aG0)) (xs := []) pl_2 hG1 (fun x' hx => by cases hx)
      unfold aPr at g2
      rw [hH] at g2
      exact g2
    unfold aPr at g1
    rw [hH] at g1
    exact g1
  unfold aPr at g ⊢
  rw [aHcl_ok ι (plU ι v) (h := (aX0 1117).2.2.2.1) aH0_cl]
  exact g
