/-! ===== parts: the two methods' runs ===== -/
theorem i6_or (a b : Nat) : i6 a ||| i6 b = i6 (a ||| b) := by
  apply i6_ext
  apply BitVec.eq_of_toNat_eq
  show (BitVec.ofNat 64 a ||| BitVec.ofNat 64 b).toNat = (BitVec.ofNat 64 (a ||| b)).toNat
  rw [BitVec.toNat_or, BitVec.toNat_ofNat, BitVec.toNat_ofNat, BitVec.toNat_ofNat, Nat.or_mod_two_pow]
theorem i6_xor (a b : Nat) : i6 a ^^^ i6 b = i6 (a ^^^ b) := by
  apply i6_ext
  apply BitVec.eq_of_toNat_eq
  show (BitVec.ofNat 64 a ^^^ BitVec.ofNat 64 b).toNat = (BitVec.ofNat 64 (a ^^^ b)).toNat
  rw [BitVec.toNat_xor, BitVec.toNat_ofNat, BitVec.toNat_ofNat, BitVec.toNat_ofNat, Nat.xor_mod_two_pow]
theorem i6_shl (a k : Nat) {x : Int64} (h : x.toBitVec = (i6 a).toBitVec <<< k) : x = i6 (a <<< k) := by
  apply i6_ext
  rw [h]
  apply BitVec.eq_of_toNat_eq
  rw [i6_bv, i6_bv, BitVec.toNat_shiftLeft, BitVec.toNat_ofNat, BitVec.toNat_ofNat, Nat.shiftLeft_eq, Nat.shiftLeft_eq, Nat.mod_mul_mod]
theorem i6_inj {a b : Nat} (ha : a < 65536) (hb : b < 65536) (h : i6 a = i6 b) : a = b := by
  have e1 : (i6 a).toBitVec.toNat = (i6 b).toBitVec.toNat := by rw [h]
  rw [i6_bv, i6_bv, BitVec.toNat_ofNat, BitVec.toNat_ofNat, Nat.mod_eq_of_lt (by omega), Nat.mod_eq_of_lt (by omega)] at e1
  exact e1
theorem i6_neg {r : Nat} (h : r < 65536) : -(i6 r) = i6 (18446744073709551616 - r) := by
  apply i6_ext
  show -(BitVec.ofNat 64 r) = BitVec.ofNat 64 (18446744073709551616 - r)
  apply BitVec.eq_of_toNat_eq
  rw [BitVec.toNat_neg, BitVec.toNat_ofNat, BitVec.toNat_ofNat, Nat.mod_eq_of_lt (show r < 2 ^ 64 by omega)]
def cw (g s : Int64) : Int64 := ((g ||| (((g <<< ((4 : Int32).toInt64 &&& 63) ||| bsh g 4) ||| ((g &&& Int64.ofInt (-34953)) <<< ((1 : Int32).toInt64 &&& 63))) ||| bsh (g &&& Int64.ofInt (-4370)) 1)) &&& 65535) &&& s
theorem cw_ok {b a : Nat} (h : sub a b) (hb : b < 65536) : cw (i6 a) (i6 b) = i6 (nx b a) := by
  have ha := sub_lt h hb
  rw [← wN_nx h hb]
  unfold cw wN
  have e1 : i6 a <<< ((4 : Int32).toInt64 &&& 63) = i6 (a <<< 4) := i6_shl a 4 rfl
  have e2 : i6 (a &&& 18446744073709516663) <<< ((1 : Int32).toInt64 &&& 63) = i6 ((a &&& 18446744073709516663) <<< 1) := i6_shl _ 1 rfl
  have l1 : (a &&& 18446744073709547246) ≤ a := Nat.and_le_left
  rw [show Int64.ofInt (-34953) = i6 18446744073709516663 from rfl, show Int64.ofInt (-4370) = i6 18446744073709547246 from rfl, show (65535 : Int64) = i6 65535 from rfl]
  rw [i6_and a, i6_and a, e1, e2, bsh_4 (by omega), bsh_1 (by omega)]
  simp only [i6_or, i6_and]
/-! blocks over the cells at the switch -/
def pI (n : Int32) (a0 a1 a2 a3 a4 : Int64) : aIn := (fun _ => n, fun i => match i with
  | 0 => a0
  | 1 => a1
  | 2 => a2
  | 3 => a3
  | _ => a4, fun _ => .inr (0, []))
def pH : sHp := eH (pI 0 0 0 0 0 0) aH0
abbrev pT : Type := Nat × aLo × List tM × aG
def to5 (y : pT) : aTp5 := (y.1, y.2.1, y.2.2.1, aH0, y.2.2.2)
theorem pt_blk (ι : aIn) {k d : Nat} {Q : Option Value → sHp → Prop} {pc : Nat} {L : aLo} {st : List tM} {G : aG} {ys : List pT} {ts : List (tM × aG)} (g : aRun false (aKx (ys.map to5)) 600 true d k pc L st aH0 G (aKs aH0 ts) = true) (hG : aOk ι G) (h1 : ∀ y ∈ ys, aOk ι y.2.2.2 → sGo none k d y.1 (eL ι y.2.1) (eS ι y.2.2.1) pH Q) (h2 : ∀ e ∈ ts, aOk ι e.2 → Q (some (eT ι e.1)) pH) : sGo none k d pc (eL ι L) (eS ι st) pH Q := by
  have e : eH ι aH0 = pH := aHcl_ok _ _ aH0_cl
  have r : aPr ι none k d Q (pc, L, st, aH0, G) := by
    refine a_blk (hE := aH0) (ts := ts) (xs := ys.map to5) g hG (fun x' hx ho => ?_) (fun t ht ho => ?_)
    · obtain ⟨y, hy, rfl⟩ := List.mem_map.mp hx
      show sGo none k d y.1 (eL ι y.2.1) (eS ι y.2.2.1) (eH ι aH0) Q
      rw [e]
      exact h1 y hy ho
    · rw [e]
      exact h2 t ht ho
  rw [← e]
  exact r
theorem pH_12 : ∃ fs, pH[60]? = some (.inr (12, fs)) := aObj_ok _ (by decide +kernel)
theorem pH_11 : ∃ fs, pH[0]? = some (.inr (11, fs)) := aObj_ok _ (by decide +kernel)
theorem pH_3 : ∃ fs, pH[5]? = some (.inr (3, fs)) := aObj_ok _ (by decide +kernel)
def pQ (v : Value) (r : Option Value) (h : sHp) : Prop := r = some v ∧ h = pH
/-! the class: grown -/
def gw : tM := .op2 .land (.op2 .land (.op2 .lor (.arg 1002) (.op2 .lor (.op2 .lor (.op2 .lor (.op2 .lshl (.arg 1002) (.int 4)) (.op2 .lushr (.arg 1002) (.int 4))) (.op2 .lshl (.op2 .land (.arg 1002) (.long (Int64.ofInt (-34953)))) (.int 1))) (.op2 .lushr (.op2 .land (.arg 1002) (.long (Int64.ofInt (-4370)))) (.int 1)))) (.long 65535)) (.arg 1001)
def gwB : tM := .op2 .lcmp gw (.arg 1002)
def gwG : aG := [(.arg 31, 0, 63)]
def gwL (x : Option tM) : aLo := [some (.index 5), some (.arg 1000), none, some (.arg 1001), none, some (.arg 1002), none, some (.arg 31), x, none]
def gwK : aLo := [some (.index 5), some (.arg 1000), none, some (.arg 1001), none, some gw, none, some (.add (.arg 31) (.int 1)), some gw, none]
def gwY : List pT := [(8, gwK, [], [(gwB, -1, -1)]), (8, gwK, [], [(gwB, 1, 1)])]
def gwT : List (tM × aG) := [(.arg 1002, [(gwB, 0, 0)])]
theorem gw_0 : aRun false (aKx (gwY.map to5)) 600 true 7 45 8 (gwL none) [] aH0 gwG (aKs aH0 gwT) = true := by decide +kernel
theorem gw_1 : aRun false (aKx (gwY.map to5)) 600 true 7 45 8 (gwL (some (.arg 1003))) [] aH0 gwG (aKs aH0 gwT) = true := by decide +kernel
theorem gw_go {b : Nat} (hb : b < 65536) {p : Int64} {r : Nat} : ∀ (f a n : Nat) (x : Option Value), gN f b a = some r → sub a b → n + f ≤ 64 → (x = none ∨ ∃ v, x = some (.long v)) → sGo none 45 7 8 [some (.ref 5), some (.long p), none, some (.long (i6 b)), none, some (.long (i6 a)), none, some (.int (Int32.ofNat n)), x, none] [] pH (pQ (.long (i6 r))) := by
  intro f
  induction f with
  | zero => intro a n x e; cases e
  | succ f ih =>
    intro a n x e ha hn hx
    have hw : cw (i6 a) (i6 b) = i6 (nx b a) := cw_ok ha hb
    have hnl := sub_lt (nx_in ha) hb
    have hal := sub_lt ha hb
    have main : ∀ (v : Int64) (y : Option tM), (y = none ∨ y = some (.arg 1003)) → aRun false (aKx (gwY.map to5)) 600 true 7 45 8 (gwL y) [] aH0 gwG (aKs aH0 gwT) = true → sGo none 45 7 8 (eL (pI (Int32.ofNat n) p (i6 b) (i6 a) v 0) (gwL y)) [] pH (pQ (.long (i6 r))) := by
      intro v y _ hr
      have next : nx b a ≠ a → sGo none 45 7 8 (eL (pI (Int32.ofNat n) p (i6 b) (i6 a) v 0) gwK) [] pH (pQ (.long (i6 r))) := by
        intro h0
        unfold gN at e
        rw [if_neg h0] at e
        have g := ih (nx b a) (n + 1) (some (.long (i6 (nx b a)))) e (nx_in ha) (by omega) (Or.inr ⟨_, rfl⟩)
        have e1 : eL (pI (Int32.ofNat n) p (i6 b) (i6 a) v 0) gwK = [some (.ref 5), some (.long p), none, some (.long (i6 b)), none, some (.long (cw (i6 a) (i6 b))), none, some (.int (Int32.ofNat n + 1)), some (.long (cw (i6 a) (i6 b))), none] := rfl
        rw [e1, hw, show Int32.ofNat n + 1 = Int32.ofNat (n + 1) from (Int32.ofNat_add n 1).symm]
        exact g
      have ne : (lg_cmp (cw (i6 a) (i6 b)) (i6 a)).toInt ≠ 0 → nx b a ≠ a := by
        intro h1 h2
        refine lgc_n h1 ?_
        rw [hw, h2]
      refine pt_blk (pI (Int32.ofNat n) p (i6 b) (i6 a) v 0) hr (fun q hq => ?_) (fun y hy ho => ?_) (fun t ht ho => ?_)
      · cases List.mem_singleton.mp hq
        show (0 : Int) ≤ (Int32.ofNat n).toInt ∧ (Int32.ofNat n).toInt ≤ 63
        rw [Int32.toInt_ofNat_of_lt (by omega)]
        omega
      · simp only [gwY, List.mem_cons, List.not_mem_nil, or_false] at hy
        rcases hy with rfl | rfl
        · refine next (ne ?_)
          have := ho (gwB, -1, -1) List.mem_cons_self
          change -1 ≤ (lg_cmp (cw (i6 a) (i6 b)) (i6 a)).toInt ∧ (lg_cmp (cw (i6 a) (i6 b)) (i6 a)).toInt ≤ -1 at this
          omega
        · refine next (ne ?_)
          have := ho (gwB, 1, 1) List.mem_cons_self
          change 1 ≤ (lg_cmp (cw (i6 a) (i6 b)) (i6 a)).toInt ∧ (lg_cmp (cw (i6 a) (i6 b)) (i6 a)).toInt ≤ 1 at this
          omega
      · cases List.mem_singleton.mp ht
        have := ho (gwB, 0, 0) List.mem_cons_self
        change 0 ≤ (lg_cmp (cw (i6 a) (i6 b)) (i6 a)).toInt ∧ (lg_cmp (cw (i6 a) (i6 b)) (i6 a)).toInt ≤ 0 at this
        have h0 : nx b a = a := by
          have h1 := lgc_0 (x := cw (i6 a) (i6 b)) (y := i6 a) (by omega)
          rw [hw] at h1
          exact i6_inj hnl hal h1
        unfold gN at e
        rw [if_pos h0] at e
        cases e
        exact ⟨rfl, rfl⟩
    rcases hx with rfl | ⟨v, rfl⟩
    · exact main 0 none (Or.inl rfl) gw_0
    · exact main v (some (.arg 1003)) (Or.inr rfl) gw_1
theorem gw_e : aRun false (aKx ([(8, [some (.index 5), some (.arg 1000), none, some (.arg 1001), none, some (.op2 .land (.arg 1000) (.arg 1001)), none, some (.int 0), none, none], [], [])].map to5)) 600 true 7 45 0 [some (.index 5), some (.arg 1000), none, some (.arg 1001), none, none, none, none, none, none] [] aH0 [] (aKs aH0 []) = true := by decide +kernel
theorem gw_do {b a r : Nat} (hb : b < 65536) (ha : sub a b) (e : gN 17 b a = some r) : sDo 8 45 [.ref 5, .long (i6 a), .long (i6 b)] pH (pQ (.long (i6 r))) := by
  refine sDo_of (nL := 10) (L := [some (.ref 5), some (.long (i6 a)), none, some (.long (i6 b)), none, none, none, none, none, none]) (by decide +kernel) rfl ?_
  refine pt_blk (pI 0 (i6 a) (i6 b) 0 0 0) gw_e (fun q hq => by cases hq) (fun y hy ho => ?_) (fun t ht => by cases ht)
  cases List.mem_singleton.mp hy
  have e1 : i6 a &&& i6 b = i6 a := by rw [i6_and]; exact congrArg i6 ha
  show sGo none 45 7 8 [some (.ref 5), some (.long (i6 a)), none, some (.long (i6 b)), none, some (.long (i6 a &&& i6 b)), none, some (.int (Int32.ofNat 0)), none, none] [] pH (pQ (.long (i6 r)))
  rw [e1]
  exact gw_go hb 17 a 0 none e ha (by omega) (Or.inl rfl)
/-! the class: piecesOf -/
def pcB : tM := .op2 .lcmp (.arg 1001) (.long 0)
def pcG : aG := [(.arg 32, 0, 63)]
def pcL : aLo := [some (.index 5), some (.arg 1000), none, some (.arg 1001), none, some (.arg 32)]
def pcY : List pT := [(30, pcL, [.arg 1001, .op2 .land (.arg 1001) (.op1 .lneg (.arg 1001)), .index 5, .arg 1001], [(pcB, -1, -1), (.arg 32, 0, 63)]), (30, pcL, [.arg 1001, .op2 .land (.arg 1001) (.op1 .lneg (.arg 1001)), .index 5, .arg 1001], [(pcB, 1, 1), (.arg 32, 0, 63)])]
def pcT : List (tM × aG) := [(.arg 32, [(pcB, 0, 0)])]
theorem pc_0 : aRun false (aKx (pcY.map to5)) 600 true 8 46 10 pcL [] aH0 pcG (aKs aH0 pcT) = true := by decide +kernel
def pcZ : List pT := [(10, [some (.index 5), some (.arg 1000), none, some (.op2 .land (.arg 1001) (.op2 .lxor (.arg 1003) (.long (Int64.ofInt (-1))))), none, some (.add (.arg 32) (.int 1))], [], [])]
theorem pc_1 : aRun false (aKx (pcZ.map to5)) 600 true 8 46 33 pcL [.arg 1003, .arg 1001] aH0 pcG (aKs aH0 []) = true := by decide +kernel
theorem rm_i6 {r g : Nat} : i6 r &&& (i6 g ^^^ Int64.ofInt (-1)) = i6 (rmN r g) := by
  rw [show Int64.ofInt (-1) = i6 18446744073709551615 from rfl, i6_xor, i6_and]; rfl
theorem low_i6 {r : Nat} (h : r < 65536) : i6 r &&& -(i6 r) = i6 (lowN r) := by
  rw [i6_neg h, i6_and]; rfl
theorem pc_go {S : Int64} {k : Nat} : ∀ (f r n : Nat), pN f r n = some k → r < 65536 → n + f ≤ 64 → sGo none 46 8 10 [some (.ref 5), some (.long S), none, some (.long (i6 r)), none, some (.int (Int32.ofNat n))] [] pH (pQ (.int (Int32.ofNat k))) := by
  intro f
  induction f with
  | zero => intro r n e; cases e
  | succ f ih =>
    intro r n e hr hn
    have hG : aOk (pI (Int32.ofNat n) S (i6 r) 0 0 0) pcG := fun q hq => by
      cases List.mem_singleton.mp hq
      show (0 : Int) ≤ (Int32.ofNat n).toInt ∧ (Int32.ofNat n).toInt ≤ 63
      rw [Int32.toInt_ofNat_of_lt (by omega)]
      omega
    have call : r ≠ 0 → sGo none 46 8 30 [some (.ref 5), some (.long S), none, some (.long (i6 r)), none, some (.int (Int32.ofNat n))] [.long (i6 r), .long (i6 r &&& -(i6 r)), .ref 5, .long (i6 r)] pH (pQ (.int (Int32.ofNat k))) := by
      intro h0
      unfold pN at e
      rw [if_neg h0] at e
      split at e
      · rename_i g hg
        obtain ⟨fs, hat⟩ := pH_3
        rw [low_i6 hr]
        refine g_virt2 (ci := 3) (fs := fs) (by decide +kernel) (by decide) (by decide +kernel) hat (by decide +kernel) (by show 2 ≤ 8; decide) (gw_do hr (low_sub r) hg) ?_
        rintro z h1 ⟨rfl, rfl⟩
        refine pt_blk (pI (Int32.ofNat n) S (i6 r) 0 (i6 g) 0) (st := [.arg 1003, .arg 1001]) pc_1 (fun q hq => ?_) (fun y hy ho => ?_) (fun t ht => by cases ht)
        · cases List.mem_singleton.mp hq
          exact hG _ List.mem_cons_self
        · cases List.mem_singleton.mp hy
          have gg := ih (rmN r g) (n + 1) e (sub_lt (rm_sub r g) hr) (by omega)
          show sGo none 46 8 10 [some (.ref 5), some (.long S), none, some (.long (i6 r &&& (i6 g ^^^ Int64.ofInt (-1)))), none, some (.int (Int32.ofNat n + 1))] [] pH _
          rw [rm_i6, show Int32.ofNat n + 1 = Int32.ofNat (n + 1) from (Int32.ofNat_add n 1).symm]
          exact gg
      · cases e
    have ne : (lg_cmp (i6 r) 0).toInt ≠ 0 → r ≠ 0 := by
      intro h1 h2
      exact lgc_n h1 ((i6_0 hr).mpr h2)
    refine pt_blk (pI (Int32.ofNat n) S (i6 r) 0 0 0) pc_0 hG (fun y hy ho => ?_) (fun t ht ho => ?_)
    · simp only [pcY, List.mem_cons, List.not_mem_nil, or_false] at hy
      rcases hy with rfl | rfl
      · refine call (ne ?_)
        have := ho (pcB, -1, -1) List.mem_cons_self
        change -1 ≤ (lg_cmp (i6 r) 0).toInt ∧ (lg_cmp (i6 r) 0).toInt ≤ -1 at this
        omega
      · refine call (ne ?_)
        have := ho (pcB, 1, 1) List.mem_cons_self
        change 1 ≤ (lg_cmp (i6 r) 0).toInt ∧ (lg_cmp (i6 r) 0).toInt ≤ 1 at this
        omega
    · cases List.mem_singleton.mp ht
      have := ho (pcB, 0, 0) List.mem_cons_self
      change 0 ≤ (lg_cmp (i6 r) 0).toInt ∧ (lg_cmp (i6 r) 0).toInt ≤ 0 at this
      have h0 : r = 0 := (i6_0 hr).mp (lgc_0 (by omega))
      unfold pN at e
      rw [if_pos h0] at e
      cases e
      exact ⟨rfl, rfl⟩
theorem pc_e : aRun false (aKx ([(10, [some (.index 5), some (.arg 1000), none, some (.op2 .land (.arg 1000) (.long 65535)), none, some (.int 0)], [], [])].map to5)) 600 true 8 46 0 [some (.index 5), some (.arg 1000), none, none, none, none] [] aH0 [] (aKs aH0 []) = true := by decide +kernel
theorem pc_do {s k : Nat} (hs : s < 65536) (e : pN 17 s 0 = some k) : sDo 9 46 [.ref 5, .long (i6 s)] pH (pQ (.int (Int32.ofNat k))) := by
  refine sDo_of (nL := 6) (L := [some (.ref 5), some (.long (i6 s)), none, none, none, none]) (by decide +kernel) rfl ?_
  refine pt_blk (pI 0 (i6 s) 0 0 0 0) pc_e (fun q hq => by cases hq) (fun y hy ho => ?_) (fun t ht => by cases ht)
  cases List.mem_singleton.mp hy
  have e1 : i6 s &&& 65535 = i6 s := by
    rw [show (65535 : Int64) = i6 65535 from rfl, i6_and, show (65535 : Nat) = 2 ^ 16 - 1 by decide, Nat.and_two_pow_sub_one_eq_mod, Nat.mod_eq_of_lt hs]
  show sGo none 46 8 10 [some (.ref 5), some (.long (i6 s)), none, some (.long (i6 s &&& 65535)), none, some (.int (Int32.ofNat 0))] [] pH _
  rw [e1]
  exact pc_go 17 s 0 e hs (by omega)
/-! the class: parts -/
def paB : tM := .op2 .lcmp (.op2 .land (.arg 1000) (.long (Int64.ofInt (-65536)))) (.long 0)
def paT : List (tM × aG) := [(.int 0, [(paB, -1, -1)]), (.int 0, [(paB, 1, 1)])]
theorem pa_c : aRun false (aKx ([(16, [some (.index 0), some (.arg 1000), none], [.arg 1000, .index 5], [(paB, 0, 0)])].map to5)) 600 true 9 140 0 [some (.index 0), some (.arg 1000), none] [] aH0 [] (aKs aH0 paT) = true := by decide +kernel
/-- what both answer -/
def paV (S : Int64) (v : Int32) : Prop := (S &&& Int64.ofInt (-65536) ≠ 0 ∧ v = 0) ∨ ∃ s k, s < 65536 ∧ S = i6 s ∧ pN 17 s 0 = some k ∧ v = Int32.ofNat k
theorem paV_ex (S : Int64) : ∃ v, paV S v := by
  by_cases h : S &&& Int64.ofInt (-65536) = 0
  · obtain ⟨s, hs, rfl⟩ := set_i6 h
    obtain ⟨k, hk⟩ := pN_ok 17 s 0 hs (by have := cB_le 16 s; omega)
    exact ⟨_, Or.inr ⟨s, k, hs, rfl, hk, rfl⟩⟩
  · exact ⟨0, Or.inl ⟨h, rfl⟩⟩
theorem pa_z {S : Int64} {v : Int32} (hv : paV S v) (h : S &&& Int64.ofInt (-65536) ≠ 0) : v = 0 := by
  rcases hv with ⟨-, h1⟩ | ⟨s, k, hs, rfl, -, -⟩
  · exact h1
  · exfalso
    refine h ?_
    rw [show Int64.ofInt (-65536) = i6 18446744073709486080 from rfl, i6_and]
    have e : s &&& 18446744073709486080 = 0 := by
      apply Nat.eq_of_testBit_eq
      intro i
      rw [Nat.testBit_and, Nat.zero_testBit]
      cases hi : s.testBit i with
      | false => rfl
      | true =>
        have h16 := bit_lt hs hi
        have : ∀ j, j < 16 → (18446744073709486080 : Nat).testBit j = false := by decide
        rw [this i h16]; rfl
    rw [e]; rfl
theorem pa_f {S : Int64} {v : Int32} (hv : paV S v) (h : S &&& Int64.ofInt (-65536) = 0) : ∃ s k, s < 65536 ∧ S = i6 s ∧ pN 17 s 0 = some k ∧ v = Int32.ofNat k := by
  rcases hv with ⟨h1, -⟩ | h1
  · exact absurd h h1
  · exact h1
theorem pa_do {S : Int64} {v : Int32} (hv : paV S v) : sDo 10 140 [.ref 0, .long S] pH (pQ (.int v)) := by
  refine sDo_of (nL := 3) (L := [some (.ref 0), some (.long S), none]) (by decide +kernel) rfl ?_
  refine pt_blk (pI 0 S 0 0 0 0) pa_c (fun q hq => by cases hq) (fun y hy ho => ?_) (fun t ht ho => ?_)
  · cases List.mem_singleton.mp hy
    have := ho (paB, 0, 0) List.mem_cons_self
    change 0 ≤ (lg_cmp (S &&& Int64.ofInt (-65536)) 0).toInt ∧ (lg_cmp (S &&& Int64.ofInt (-65536)) 0).toInt ≤ 0 at this
    obtain ⟨s, k, hs, rfl, hk, rfl⟩ := pa_f hv (lgc_0 (by omega))
    obtain ⟨fs, hat⟩ := pH_3
    show sGo none 140 9 16 [some (.ref 0), some (.long (i6 s)), none] [.long (i6 s), .ref 5] pH _
    refine g_virt1 (ci := 3) (fs := fs) (by decide +kernel) (by decide) (by decide +kernel) hat (by decide +kernel) (by decide) (pc_do hs hk) ?_
    rintro z h1 ⟨rfl, rfl⟩
    refine g_goto (off := 4) 23 (by decide +kernel) (by decide) ?_
    exact g_ireturn (ty := .int) (by decide +kernel) (by decide +kernel) rfl ⟨rfl, rfl⟩
  · have hz : (lg_cmp (S &&& Int64.ofInt (-65536)) 0).toInt ≠ 0 → pQ (.int v) (some (.int 0)) pH := fun h1 => by
      rw [pa_z hv (lgc_n h1)]
      exact ⟨rfl, rfl⟩
    simp only [paT, List.mem_cons, List.not_mem_nil, or_false] at ht
    rcases ht with rfl | rfl
    · refine hz ?_
      have := ho (paB, -1, -1) List.mem_cons_self
      change -1 ≤ (lg_cmp (S &&& Int64.ofInt (-65536)) 0).toInt ∧ (lg_cmp (S &&& Int64.ofInt (-65536)) 0).toInt ≤ -1 at this
      omega
    · refine hz ?_
      have := ho (paB, 1, 1) List.mem_cons_self
      change 1 ≤ (lg_cmp (S &&& Int64.ofInt (-65536)) 0).toInt ∧ (lg_cmp (S &&& Int64.ofInt (-65536)) 0).toInt ≤ 1 at this
      omega
