/-! ===== faults, as one sees them ===== -/
def smN (m : MF) : Nat := (m.1 5).toInt.toNat
noncomputable def F2 (W n sm : Nat) (x : Int64) : Prop := ¬ (ptS W n 64 x < 2 ∧ sm ≤ cnt x)
noncomputable def F3 (W H : Nat) (r : Int) (lane x : Int64) : Prop := x &&& (rdS W H r ||| besS W (W * H) (grF W (W * H) lane ((lane &&& rdS W H r) &&& lane))) = Int64.ofNat 0
noncomputable def F4 (W n : Nat) (wl : Int32) (lane x : Int64) : Prop := ∃ k, k < n ∧ wl = Int32.ofNat k ∧ lane &&& (Int64.ofNat 1 <<< ((Int32.ofNat k).toInt64 &&& 63)) = Int64.ofNat 0 ∧ x &&& ((Int64.ofNat 1 <<< ((Int32.ofNat k).toInt64 &&& 63)) ||| besS W n (Int64.ofNat 1 <<< ((Int32.ofNat k).toInt64 &&& 63))) = Int64.ofNat 0
def F5 (m : MF) (n N i : Nat) (x : Int64) : Prop := wV m n i x * ssN m N < shN m i * wV m n i (stO (fun _ => true) n)
noncomputable def fltP (m : MF) (s : Sg) (S : Nat → Int64) (f i : Nat) : Prop := match f with
  | 2 => F2 s.1 (s.1 * s.2.1) (smN m) (S i)
  | 3 => F3 s.1 s.2.1 (m.1 2).toInt (S 5) (S i)
  | 4 => F4 s.1 (s.1 * s.2.1) (m.1 3) (S 5) (S i)
  | _ => F5 m (s.1 * s.2.1) s.2.2 i (S i)
noncomputable def fst1 (P : Nat → Prop) : Nat → Nat → Option Nat
  | 0, _ => none
  | f + 1, i => @ite _ (P i) (Classical.propDecidable _) (some i) (fst1 P f (i + 1))
theorem fst1_y {P : Nat → Prop} {f i : Nat} (h : P i) : fst1 P (f + 1) i = some i := @if_pos _ (Classical.propDecidable _) h _ _ _
theorem fst1_n {P : Nat → Prop} {f i : Nat} (h : ¬ P i) : fst1 P (f + 1) i = fst1 P f (i + 1) := @if_neg _ (Classical.propDecidable _) h _ _ _
theorem fst1_no {P : Nat → Prop} : ∀ {f i : Nat}, (∀ j, ¬ P j) → fst1 P f i = none := by
  intro f
  induction f with
  | zero => intro i _; rfl
  | succ f ih => intro i h; rw [fst1_n (h i)]; exact ih h
theorem fst1_lt {P : Nat → Prop} : ∀ {f i j : Nat}, fst1 P f i = some j → i ≤ j ∧ j < i + f ∧ P j := by
  intro f
  induction f with
  | zero => intro i j h; cases h
  | succ f ih =>
    intro i j h
    by_cases z : P i
    · rw [fst1_y z] at h
      cases h
      exact ⟨Nat.le_refl _, by omega, z⟩
    · rw [fst1_n z] at h
      have k := ih h
      exact ⟨by omega, by omega, k.2.2⟩
def vdT (o : Option Nat) (f : Nat) (r : Option (Nat × Nat)) : Option (Nat × Nat) := match o with
  | some i => some (f, i)
  | none => r
noncomputable def vdG (F : Nat → Nat → Prop) (N : Nat) : Nat → Nat → Option (Nat × Nat)
  | 0, _ => none
  | k + 1, f => vdT (fst1 (F f) N 0) f (vdG F N k (f + 1))
def lowB (x : Int64) : Nat := cnt ((x &&& -x) - Int64.ofNat 1)
noncomputable def vdA (m : MF) (s : Sg) (S : Nat → Int64) : Option (Nat × Nat) := if S 6 = Int64.ofNat 0 then vdG (fltP m s S) s.2.2 4 2 else some (1, lowB (S 6))
def vdI (o : Option (Nat × Nat)) : Int32 := match o with
  | none => 0
  | some (f, i) => Int32.ofNat (100 * f + i)
theorem low_one {x : Int64} {j : Nat} (h1 : bt x j = true) (h0 : ∀ i, i < j → bt x i = false) (hj : j < 64) : x &&& -x = Int64.ofNat 1 <<< ((Int32.ofNat j).toInt64 &&& 63) := bt_ext (fun i hi => by
  rw [bt_one hj]
  by_cases e : i = j
  · subst e
    rw [neg_low hj h1 h0, decide_eq_true rfl]
  · rw [decide_eq_false e, bt_and]
    by_cases z : bt x i = true
    · have e1 : bt (-x) i = false := by
        show (-x.toBitVec).getLsbD i = false
        rw [BitVec.getLsbD_neg]
        have hj2 : j < i := by
          rcases Nat.lt_trichotomy i j with a | a | a
          · rw [h0 i a] at z; cases z
          · exact absurd a e
          · exact a
        have e3 : (∃ k, k < i ∧ x.toBitVec.getLsbD k = true) = True := eq_true ⟨j, hj2, h1⟩
        have e4 : x.toBitVec.getLsbD i = true := z
        simp only [e3, e4, decide_true, decide_eq_true hi]
        rfl
      rw [e1, Bool.and_false]
    · rw [nTF z, Bool.false_and])
theorem cntB_all {j : Nat} (hj : j ≤ 64) : ∀ k, cntB (stO (fun _ => true) j) k = if k ≤ j then k else j := by
  intro k
  induction k with
  | zero => exact (if_pos (Nat.zero_le _)).symm
  | succ k ih =>
    show cntB (stO (fun _ => true) j) k + (if bt (stO (fun _ => true) j) k = true then 1 else 0) = _
    rw [ih, bt_stO _ _ hj, Bool.and_true]
    by_cases a : k < j
    · rw [if_pos (by omega), decide_eq_true a, if_pos rfl, if_pos (by omega)]
    · rw [decide_eq_false a, if_neg (show ¬ (false = true) by decide)]
      by_cases b : k ≤ j
      · rw [if_pos b, if_neg (by omega)]; omega
      · rw [if_neg b, if_neg (by omega)]; rfl
theorem lowB_of {x : Int64} {j : Nat} (hj : j < 64) (h1 : bt x j = true) (h0 : ∀ i, i < j → bt x i = false) : lowB x = j := by
  unfold lowB
  rw [low_one h1 h0 hj, low_st j hj]
  unfold cnt
  rw [cntB_all (by omega)]
  by_cases e : 64 ≤ j
  · omega
  · rw [if_neg e]
theorem pt2 {W n : Nat} {x : Int64} : ptS W n 64 x < 2 ↔ grF W n x ((x &&& -x) &&& x) = x := by
  have hsub : sb (grF W n x ((x &&& -x) &&& x)) x := by rw [← gr_64]; exact gr_in 64 _ sb_and
  show (if x = Int64.ofNat 0 then 0 else ptS W n 63 (x &&& (grF W n x ((x &&& -x) &&& x) ^^^ lM1)) + 1) < 2 ↔ _
  by_cases hx : x = Int64.ofNat 0
  · rw [if_pos hx]
    refine ⟨fun _ => ?_, fun _ => by decide⟩
    refine bt_ext (fun i hi => ?_)
    by_cases z : bt (grF W n x ((x &&& -x) &&& x)) i = true
    · rw [z, hsub i hi z]
    · rw [nTF z, hx, bt_0]
  · rw [if_neg hx]
    show (if x &&& (grF W n x ((x &&& -x) &&& x) ^^^ lM1) = Int64.ofNat 0 then 0 else ptS W n 62 _ + 1) + 1 < 2 ↔ _
    by_cases hy : x &&& (grF W n x ((x &&& -x) &&& x) ^^^ lM1) = Int64.ofNat 0
    · rw [if_pos hy]
      refine ⟨fun _ => bt_ext (fun i hi => ?_), fun _ => by decide⟩
      have k := bt_eq0.mp hy i hi
      rw [bt_and, bt_not, decide_eq_true hi, Bool.true_and] at k
      by_cases z : bt (grF W n x ((x &&& -x) &&& x)) i = true
      · rw [z, hsub i hi z]
      · rw [nTF z] at k ⊢
        rw [Bool.not_false, Bool.and_true] at k
        exact k.symm
    · rw [if_neg hy]
      refine ⟨fun z => by omega, fun z => absurd ?_ hy⟩
      rw [z]
      refine bt_eq0.mpr (fun i hi => ?_)
      rw [bt_and, bt_not, decide_eq_true hi, Bool.true_and]
      cases bt x i <;> rfl
theorem rch_iff {x a gg b : Int64} (h : ∀ i, i < 64 → bt x i = true → bt gg i = false) : x &&& (a ||| (gg ||| b)) = Int64.ofNat 0 ↔ x &&& (a ||| b) = Int64.ofNat 0 := by
  have e : x &&& (a ||| (gg ||| b)) = x &&& (a ||| b) := bt_ext (fun i hi => by
    rw [bt_and, bt_and, bt_or, bt_or, bt_or]
    by_cases z : bt x i = true
    · rw [h i hi z, Bool.false_or]
    · rw [nTF z, Bool.false_and, Bool.false_and])
  rw [e]
/-- no square of both -/
def dj (x y : Int64) : Prop := ∀ i, i < 64 → bt x i = true → bt y i = false
theorem inN_bit {n k : Nat} (hk : k < n) (hn : n ≤ 64) : inN (Int64.ofNat 1 <<< ((Int32.ofNat k).toInt64 &&& 63)) n := fun i hi z => by
  rw [bt_one (by omega)] at z
  have := of_decide_eq_true z
  omega
theorem RN_k {c : CF} {m : MF} (r : RB c m) : ∀ k, k ≤ 3 → c.1 (7 + k) = m.1 (2 + k) := by
  obtain ⟨W, H, N, -, -, -, -, -, -, mk⟩ := r.1
  exact mk
theorem RP_k {c : CF} {m : MF} {s : Sg} (r : RB c m) (sI : sgI c s) : (0 ≤ (m.1 2).toInt ∧ (m.1 2).toInt ≤ 3) ∧ (m.1 3 = -1 ∨ ∃ k, k < s.1 * s.2.1 ∧ m.1 3 = Int32.ofNat k) ∧ (0 ≤ (m.1 5).toInt ∧ (m.1 5).toInt ≤ 20) := by
  have RP := (r.2 s sI).2
  obtain ⟨s', sI', -, g, -⟩ := RN_sg r.1
  have e : s' = s := sgI_inj sI' sI
  subst e
  have hn := gdF_n g
  have p0 := RP 0 (by decide)
  have p1 := RP 1 (by decide)
  have p3 := RP 3 (by decide)
  unfold okPl at p0 p1 p3
  have e1 : (-1 : Int32).toInt = -1 := rfl
  have p0 : 0 ≤ (m.1 2).toInt ∧ (m.1 2).toInt ≤ 3 := by
    have e : (m.1 (2 + 0)).toInt = (m.1 2).toInt := rfl
    omega
  have p3 : 0 ≤ (m.1 5).toInt ∧ (m.1 5).toInt ≤ 20 := by
    have e : (m.1 (2 + 3)).toInt = (m.1 5).toInt := rfl
    omega
  refine ⟨p0, ?_, p3⟩
  by_cases z : m.1 3 = -1
  · exact Or.inl z
  · have k : 0 ≤ (m.1 3).toInt ∧ (m.1 3).toInt < ((s'.1 * s'.2.1 : Nat) : Int) := by
      have e : (m.1 (2 + 1)).toInt = (m.1 3).toInt := rfl
      have : ¬ (m.1 3).toInt = -1 := fun y => z (Int32.toInt_inj.mp (y.trans e1.symm))
      omega
    exact Or.inr ⟨(m.1 3).toInt.toNat, by omega, Int32.toInt_inj.mp (by rw [ofN_toInt (by omega)]; omega)⟩
theorem s_hasFault {d : Nat} {h : sHp} {c : CF} {m : MF} {s : Sg} {S : Nat → Int64} {i : Nat} {f : Nat} (hd : 6 ≤ d) (F : FC h 5 c) (g : gdF c s.1 s.2.1) (r : RB c m) (sI : sgI c s) (hi : i < s.2.2) (hx : inN (S i) (s.1 * s.2.1)) (hl : inN (S 5) (s.1 * s.2.1)) (hdj : dj (S i) (S 5)) (hf : 2 ≤ f ∧ f ≤ 5) : sDo d 49 [.ref 5, .int (Int32.ofNat f), .int (Int32.ofNat i), .long (S i), .long (S 5)] h (fun r h' => h' = h ∧ (fltP m s S f i ∧ r = some (.int 1) ∨ ¬ fltP m s S f i ∧ r = some (.int 0))) := by
  have hn := gdF_n g
  have RK := RN_k r
  have RP := RP_k r sI
  have e7 : c.1 7 = m.1 2 := RK 0 (by decide)
  have e8 : c.1 8 = m.1 3 := RK 1 (by decide)
  have e10 : c.1 10 = m.1 5 := RK 3 (by decide)
  have hr7 : 0 ≤ (c.1 7).toInt ∧ (c.1 7).toInt ≤ 3 := by rw [e7]; exact RP.1
  have es : (c.1 10).toInt = ((smN m : Nat) : Int) := by
    rw [e10]
    unfold smN
    have := RP.2.2
    omega
  have ecx : (Int32.ofNat (cnt (S i))).toInt = ((cnt (S i) : Nat) : Int) := ofN_toInt (by have := cnt_le (S i); omega)
  rcases (show f = 2 ∨ f = 3 ∨ f = 4 ∨ f = 5 by omega) with rfl | rfl | rfl | rfl
  · refine sDo_of1 (nL := 7) (L := [some (.ref 5), some (.int (Int32.ofNat 2)), some (.int (Int32.ofNat i)), some (.long (S i)), none, some (.long (S 5)), none]) (by omega) rfl rfl ?_
    have hv : (Int32.ofNat 2).toInt = 2 := rfl
    refine g_iload_n (i := 1) rfl rfl ?_
    refine g_tsIn 0 28 rfl (by omega) (by rw [hv]; rfl) rfl rfl ?_
    refine g_lload_n (i := 3) rfl rfl ?_
    refine g_static1 (Qc := fun r h' => h' = h ∧ r = some (.int (Int32.ofNat (cnt (S i))))) rfl (by decide) rfl (Nat.le_of_ble_eq_true rfl) (s_bitCount (by omega)) (fun r h hq9 => ?_)
    obtain ⟨rfl, rfl⟩ := hq9
    refine g_aload_n (i := 0) rfl rfl ?_
    refine g_getfield (v := .int (c.1 10)) rfl F.1 (by decide) rfl ?_
    refine g_icmp_lt 53 rfl rfl (fun c_1 => ?_) (fun c_1 => ?_)
    · skip
      rw [i_lt, ecx, es] at c_1
      refine g_iconst (n := 1) rfl ?_
      refine g_goto 58 rfl rfl ?_
      refine g_ireturn (ty := .boolean) rfl rfl (by decide) ?_
      exact ⟨rfl, Or.inl ⟨fun z => by have := z.2; omega, rfl⟩⟩
    · skip
      rw [i_lt, ecx, es] at c_1
      refine g_aload_n (i := 0) rfl rfl ?_
      refine g_lload_n (i := 3) rfl rfl ?_
      refine g_lload_n (i := 3) rfl rfl ?_
      refine g_lneg rfl ?_
      refine g_land rfl ?_
      refine g_lload_n (i := 3) rfl rfl ?_
      refine g_virt2 (Qc := fun r h' => h' = h ∧ r = some (.long (grF s.1 (s.1 * s.2.1) (S i) ((S i &&& -(S i)) &&& S i)))) rfl (by decide) rfl F.1 rfl (Nat.le_of_ble_eq_true rfl) (s_grown11 (q0 := S i &&& -(S i)) (by omega) F g hx) (fun r h hq9 => ?_)
      obtain ⟨rfl, rfl⟩ := hq9
      refine g_lload_n (i := 3) rfl rfl ?_
      refine g_lcmp rfl ?_
      refine g_if_eq 57 rfl rfl (fun c_2 => ?_) (fun c_2 => ?_)
      · skip
        rw [lc_eq] at c_2
        refine g_iconst (n := 0) rfl ?_
        refine g_ireturn (ty := .boolean) rfl rfl (by decide) ?_
        exact ⟨rfl, Or.inr ⟨fun z => z ⟨pt2.mpr c_2, by omega⟩, rfl⟩⟩
      · skip
        rw [lc_eq] at c_2
        refine g_iconst (n := 1) rfl ?_
        refine g_goto 58 rfl rfl ?_
        refine g_ireturn (ty := .boolean) rfl rfl (by decide) ?_
        exact ⟨rfl, Or.inl ⟨fun z => c_2 (pt2.mp z.1), rfl⟩⟩
  · refine sDo_of1 (nL := 7) (L := [some (.ref 5), some (.int (Int32.ofNat 3)), some (.int (Int32.ofNat i)), some (.long (S i)), none, some (.long (S 5)), none]) (by omega) rfl rfl ?_
    have hv : (Int32.ofNat 3).toInt = 3 := rfl
    have hgl : dj (S i) (grF s.1 (s.1 * s.2.1) (S 5) ((S 5 &&& rdS s.1 s.2.1 (c.1 7).toInt) &&& S 5)) := fun q hq z => by
      by_cases y : bt (grF s.1 (s.1 * s.2.1) (S 5) ((S 5 &&& rdS s.1 s.2.1 (c.1 7).toInt) &&& S 5)) q = true
      · have k : sb (grF s.1 (s.1 * s.2.1) (S 5) ((S 5 &&& rdS s.1 s.2.1 (c.1 7).toInt) &&& S 5)) (S 5) := by rw [← gr_64]; exact gr_in 64 _ sb_and
        have k2 := hdj q hq z
        rw [k q hq y] at k2
        cases k2
      · exact nTF y
    have key := rch_iff (a := rdS s.1 s.2.1 (c.1 7).toInt) (b := besS s.1 (s.1 * s.2.1) (grF s.1 (s.1 * s.2.1) (S 5) ((S 5 &&& rdS s.1 s.2.1 (c.1 7).toInt) &&& S 5))) hgl
    refine g_iload_n (i := 1) rfl rfl ?_
    refine g_tsIn 1 59 rfl (by omega) (by rw [hv]; rfl) rfl rfl ?_
    refine g_lload_n (i := 3) rfl rfl ?_
    refine g_aload_n (i := 0) rfl rfl ?_
    refine g_lload (i := 5) rfl rfl ?_
    refine g_virt1 (Qc := fun r h' => h' = h ∧ r = some (.long (rdS s.1 s.2.1 (c.1 7).toInt ||| (grF s.1 (s.1 * s.2.1) (S 5) ((S 5 &&& rdS s.1 s.2.1 (c.1 7).toInt) &&& S 5) ||| besS s.1 (s.1 * s.2.1) (grF s.1 (s.1 * s.2.1) (S 5) ((S 5 &&& rdS s.1 s.2.1 (c.1 7).toInt) &&& S 5)))))) rfl (by decide) rfl F.1 rfl (Nat.le_of_ble_eq_true rfl) (s_reach11 (by omega) F g hr7 hl) (fun r h hq9 => ?_)
    obtain ⟨rfl, rfl⟩ := hq9
    refine g_land rfl ?_
    refine g_lconst (n := 0) rfl ?_
    show sGo none 49 _ 68 [some (.ref 5), some (.int (Int32.ofNat 3)), some (.int (Int32.ofNat i)), some (.long (S i)), none, some (.long (S 5)), none] [.long (Int64.ofNat 0), .long ((S i) &&& (rdS s.1 s.2.1 (c.1 7).toInt ||| (grF s.1 (s.1 * s.2.1) (S 5) ((S 5 &&& rdS s.1 s.2.1 (c.1 7).toInt) &&& S 5) ||| besS s.1 (s.1 * s.2.1) (grF s.1 (s.1 * s.2.1) (S 5) ((S 5 &&& rdS s.1 s.2.1 (c.1 7).toInt) &&& S 5)))))] _ _
    refine g_lcmp rfl ?_
    refine g_if_ne 76 rfl rfl (fun c_1 => ?_) (fun c_1 => ?_)
    · skip
      rw [lc_eq] at c_1
      refine g_iconst (n := 0) rfl ?_
      refine g_ireturn (ty := .boolean) rfl rfl (by decide) ?_
      exact ⟨rfl, Or.inr ⟨fun z => c_1 (key.mpr (by have z : F3 s.1 s.2.1 (m.1 2).toInt (S 5) (S i) := z; unfold F3 at z; rw [← e7] at z; exact z)), rfl⟩⟩
    · skip
      rw [lc_eq] at c_1
      refine g_iconst (n := 1) rfl ?_
      refine g_goto 77 rfl rfl ?_
      refine g_ireturn (ty := .boolean) rfl rfl (by decide) ?_
      exact ⟨rfl, Or.inl ⟨(by show F3 _ _ _ _ _; unfold F3; rw [← e7]; exact key.mp c_1), rfl⟩⟩
  · have hv : (Int32.ofNat 4).toInt = 4 := rfl
    rcases RP.2.1 with hw | ⟨k, hk, hw⟩
    · refine sDo_of1 (nL := 7) (L := [some (.ref 5), some (.int (Int32.ofNat 4)), some (.int (Int32.ofNat i)), some (.long (S i)), none, some (.long (S 5)), none]) (by omega) rfl rfl ?_
      have hn4 : ¬ fltP m s S 4 i := fun z => by
        obtain ⟨k, hk, e, -⟩ := z
        rw [hw] at e
        have e2 := congrArg Int32.toInt e
        rw [ofN_toInt (by omega)] at e2
        have e1 : (-1 : Int32).toInt = -1 := rfl
        omega
      refine g_iload_n (i := 1) rfl rfl ?_
      refine g_tsIn 2 78 rfl (by omega) (by rw [hv]; rfl) rfl rfl ?_
      refine g_aload_n (i := 0) rfl rfl ?_
      refine g_lload (i := 5) rfl rfl ?_
      refine g_virt1 (Qc := fun r h' => h' = h ∧ r = some (.int 0)) rfl (by decide) rfl F.1 rfl (Nat.le_of_ble_eq_true rfl) (s_well11n (by omega) F g (e8.trans hw)) (fun r h hq9 => ?_)
      obtain ⟨rfl, rfl⟩ := hq9
      refine g_if_eq 110 rfl rfl (fun _ => ?_) (fun hc => absurd hc (by decide))
      refine g_iconst (n := 0) rfl ?_
      refine g_ireturn (ty := .boolean) rfl rfl (by decide) ?_
      exact ⟨rfl, Or.inr ⟨hn4, rfl⟩⟩
    · refine sDo_of1 (nL := 7) (L := [some (.ref 5), some (.int (Int32.ofNat 4)), some (.int (Int32.ofNat i)), some (.long (S i)), none, some (.long (S 5)), none]) (by omega) rfl rfl ?_
      have hkw : c.1 8 = Int32.ofNat k := e8.trans hw
      have uk : ∀ k2, k2 < s.1 * s.2.1 → m.1 3 = Int32.ofNat k2 → k2 = k := fun k2 h2 e => ofN_inj (by omega) (by omega) (e.symm.trans hw)
      refine g_iload_n (i := 1) rfl rfl ?_
      refine g_tsIn 2 78 rfl (by omega) (by rw [hv]; rfl) rfl rfl ?_
      refine g_aload_n (i := 0) rfl rfl ?_
      refine g_lload (i := 5) rfl rfl ?_
      refine g_virt1 (Qc := fun r h' => h' = h ∧ (((S 5 &&& (Int64.ofNat 1 <<< ((Int32.ofNat k).toInt64 &&& 63)) = Int64.ofNat 0) ∧ r = some (.int 1)) ∨ (¬ (S 5 &&& (Int64.ofNat 1 <<< ((Int32.ofNat k).toInt64 &&& 63)) = Int64.ofNat 0) ∧ r = some (.int 0)))) rfl (by decide) rfl F.1 rfl (Nat.le_of_ble_eq_true rfl) (s_well11 (by omega) F g hkw hk) (fun r h hq9 => ?_)
      obtain ⟨rfl, ⟨c_1, rfl⟩ | ⟨c_1, rfl⟩⟩ := hq9
      · skip
        refine g_if_eq 110 rfl rfl (fun hc => absurd hc (by decide)) (fun _ => ?_)
        refine g_lload_n (i := 3) rfl rfl ?_
        refine g_aload_n (i := 0) rfl rfl ?_
        refine g_aload_n (i := 0) rfl rfl ?_
        refine g_aload_n (i := 0) rfl rfl ?_
        refine g_getfield (v := .int (c.1 8)) rfl F.1 (by decide) rfl ?_
        rw [hkw]
        refine g_virt1 (Qc := fun r h' => h' = h ∧ r = some (.long (Int64.ofNat 1 <<< ((Int32.ofNat k).toInt64 &&& 63)))) rfl (by decide) rfl F.1 rfl (Nat.le_of_ble_eq_true rfl) (s_only8 (by omega) F g hk) (fun r h hq9 => ?_)
        obtain ⟨rfl, rfl⟩ := hq9
        refine g_virt1 (Qc := fun r h' => h' = h ∧ r = some (.long ((Int64.ofNat 1 <<< ((Int32.ofNat k).toInt64 &&& 63)) ||| besS s.1 (s.1 * s.2.1) (Int64.ofNat 1 <<< ((Int32.ofNat k).toInt64 &&& 63))))) rfl (by decide) rfl F.1 rfl (Nat.le_of_ble_eq_true rfl) (s_withBeside (by omega) F g (inN_bit hk hn.1)) (fun r h hq9 => ?_)
        obtain ⟨rfl, rfl⟩ := hq9
        refine g_land rfl ?_
        refine g_lconst (n := 0) rfl ?_
        show sGo none 49 _ 102 [some (.ref 5), some (.int (Int32.ofNat 4)), some (.int (Int32.ofNat i)), some (.long (S i)), none, some (.long (S 5)), none] [.long (Int64.ofNat 0), .long ((S i) &&& ((Int64.ofNat 1 <<< ((Int32.ofNat k).toInt64 &&& 63)) ||| besS s.1 (s.1 * s.2.1) (Int64.ofNat 1 <<< ((Int32.ofNat k).toInt64 &&& 63))))] _ _
        refine g_lcmp rfl ?_
        refine g_if_ne 110 rfl rfl (fun c_2 => ?_) (fun c_2 => ?_)
        · skip
          rw [lc_eq] at c_2
          refine g_iconst (n := 0) rfl ?_
          refine g_ireturn (ty := .boolean) rfl rfl (by decide) ?_
          refine ⟨rfl, Or.inr ⟨fun z => ?_, rfl⟩⟩
          obtain ⟨k2, h2, e2, z1, z2⟩ := z
          obtain rfl := uk k2 h2 e2
          exact absurd z2 c_2
        · skip
          rw [lc_eq] at c_2
          refine g_iconst (n := 1) rfl ?_
          refine g_goto 111 rfl rfl ?_
          refine g_ireturn (ty := .boolean) rfl rfl (by decide) ?_
          exact ⟨rfl, Or.inl ⟨⟨k, hk, hw, c_1, c_2⟩, rfl⟩⟩
      · skip
        refine g_if_eq 110 rfl rfl (fun _ => ?_) (fun hc => absurd hc (by decide))
        refine g_iconst (n := 0) rfl ?_
        refine g_ireturn (ty := .boolean) rfl rfl (by decide) ?_
        refine ⟨rfl, Or.inr ⟨fun z => ?_, rfl⟩⟩
        obtain ⟨k2, h2, e2, z1, z2⟩ := z
        obtain rfl := uk k2 h2 e2
        exact absurd z1 c_1
  · refine sDo_of1 (nL := 7) (L := [some (.ref 5), some (.int (Int32.ofNat 5)), some (.int (Int32.ofNat i)), some (.long (S i)), none, some (.long (S 5)), none]) (by omega) rfl rfl ?_
    have hv : (Int32.ofNat 5).toInt = 5 := rfl
    refine g_iload_n (i := 1) rfl rfl ?_
    refine g_tsOut 112 rfl (by omega) rfl ?_
    refine g_aload_n (i := 0) rfl rfl ?_
    refine g_iload_n (i := 2) rfl rfl ?_
    refine g_lload_n (i := 3) rfl rfl ?_
    refine g_virt2 rfl (by decide) rfl F.1 rfl (Nat.le_of_ble_eq_true rfl) (s_surplus11 (d := d - 1) (by omega) F g r sI hi) (fun r h9 hq => ?_)
    obtain ⟨rfl, v, ev, rfl⟩ := hq
    have k_2 : (0 : Int32).toInt = 0 := rfl
    refine g_if_ge 125 rfl rfl (fun c_1 => ?_) (fun c_1 => ?_)
    · skip
      rw [i_le, k_2] at c_1
      refine g_iconst (n := 0) rfl ?_
      refine g_ireturn (ty := .boolean) rfl rfl (by decide) ?_
      exact ⟨rfl, Or.inr ⟨fun z => by have z : F5 m (s.1 * s.2.1) s.2.2 i (S i) := z; unfold F5 at z; omega, rfl⟩⟩
    · skip
      rw [i_le, k_2] at c_1
      refine g_iconst (n := 1) rfl ?_
      refine g_goto 126 rfl rfl ?_
      refine g_ireturn (ty := .boolean) rfl rfl (by decide) ?_
      exact ⟨rfl, Or.inl ⟨(by show F5 _ _ _ _ _; unfold F5; omega), rfl⟩⟩
theorem PT_inN {S : Nat → Int64} {ow : Nat → Int32} {n k : Nat} (hn : n ≤ 64) (P : PT S ow n) (hk : k < 7) : inN (S k) n := fun i hi z => by
  by_cases y : i < n
  · exact y
  · rw [PT_out hn P hk y] at z; cases z
theorem PT_dj {S : Nat → Int64} {ow : Nat → Int32} {n a b : Nat} (hn : n ≤ 64) (P : PT S ow n) (ha : a < 7) (hb : b < 7) (hab : ¬ a = b) : dj (S a) (S b) := fun i hi z => by
  have y := PT_inN hn P ha i hi z
  rw [PT_bt hn P ha y] at z
  rw [PT_bt hn P hb y]
  exact decide_eq_false (fun e => hab (cdS_inj ha hb ((of_decide_eq_true z).symm.trans e)))
theorem s_verd_go {d : Nat} {h : sHp} {c : CF} {m : MF} {s : Sg} {S : Nat → Int64} {ow : Nat → Int32} {p : Nat} {x6 : Int64} (hd : 6 ≤ d) (F : FC h 5 c) (g : gdF c s.1 s.2.1) (r : RB c m) (sI : sgI c s) (hp : h[p]? = some (.inl (1, 7, .inr (.inl S)))) (P : PT S ow (s.1 * s.2.1)) : ∀ (gg f : Nat) (o5 : Option Value), f + gg = 6 → 2 ≤ f → sGo none 48 d 36 [some (.ref 5), some (.ref p), some (.long x6), none, some (.int (Int32.ofNat f)), o5] [] h (fun r h' => h' = h ∧ r = some (.int (vdI (vdG (fltP m s S) s.2.2 gg f)))) := by
  have hn := gdF_n g
  have n5 := sI.2.2.2.2.2.2.2
  have e11 : (c.1 11).toInt = ((s.2.2 : Nat) : Int) := by rw [sI.2.2.1]; exact ofN_toInt (by omega)
  intro gg
  induction gg with
  | zero =>
    intro f o5 hf h2
    have f6 : f = 6 := by omega
    subst f6
    refine g_iload (i := 4) rfl rfl ?_
    refine g_iconst (n := 5) rfl ?_
    refine g_icmp_gt 99 rfl rfl (fun _ => ?_) (fun hc => absurd hc (by exact fun z => z (by decide)))
    refine g_iconst (n := 0) rfl ?_
    refine g_ireturn (ty := .int) rfl rfl rfl ?_
    exact ⟨rfl, rfl⟩
  | succ gg iho =>
    intro f o5 hf h2
    have ef := ofN_toInt (n := f) (by omega)
    have e5 : (Int32.ofInt 5).toInt = 5 := rfl
    have inn : ∀ (N k : Nat), k + N = s.2.2 → sGo none 48 d 45 [some (.ref 5), some (.ref p), some (.long x6), none, some (.int (Int32.ofNat f)), some (.int (Int32.ofNat k))] [] h (fun r h' => h' = h ∧ r = some (.int (vdI (vdT (fst1 (fltP m s S f) N k) f (vdG (fltP m s S) s.2.2 gg (f + 1)))))) := by
      intro N
      induction N with
      | zero =>
        intro k hk
        have ek := ofN_toInt (n := k) (by omega)
        refine g_iload (i := 5) rfl rfl ?_
        refine g_aload_n (i := 0) rfl rfl ?_
        refine g_getfield (v := .int (c.1 11)) rfl F.1 (by decide) rfl ?_
        refine g_icmp_ge 93 rfl rfl (fun _ => ?_) (fun hc => absurd hc (by rw [i_le, e11, ek]; omega))
        refine g_iinc (i := 4) (L1 := [some (.ref 5), some (.ref p), some (.long x6), none, some (.int ((Int32.ofNat f) + Int32.ofInt 1)), some (.int (Int32.ofNat k))]) rfl rfl rfl ?_
        rw [ofN_add (by omega)]
        refine g_goto 36 rfl rfl ?_
        exact iho (f + 1) _ (by omega) (by omega)
      | succ N ih =>
        intro k hk
        have ek := ofN_toInt (n := k) (by omega)
        have hk5 : k < s.2.2 := by omega
        refine g_iload (i := 5) rfl rfl ?_
        refine g_aload_n (i := 0) rfl rfl ?_
        refine g_getfield (v := .int (c.1 11)) rfl F.1 (by decide) rfl ?_
        refine g_icmp_ge 93 rfl rfl (fun hc => absurd hc (by rw [i_le, e11, ek]; omega)) (fun _ => ?_)
        refine g_iload (i := 5) rfl rfl ?_
        refine g_iconst (n := 5) rfl ?_
        refine g_icmp_ge 93 rfl rfl (fun hc => absurd hc (by rw [i_le, ek, e5]; omega)) (fun _ => ?_)
        refine g_aload_n (i := 0) rfl rfl ?_
        refine g_iload (i := 4) rfl rfl ?_
        refine g_iload (i := 5) rfl rfl ?_
        refine g_aload_n (i := 1) rfl rfl ?_
        refine g_iload (i := 5) rfl rfl ?_
        refine g_laload (n := 7) (f := S) rfl hp (i_in (by omega) (by omega)) ?_
        rw [i_nat ek]
        refine g_aload_n (i := 1) rfl rfl ?_
        refine g_iconst (n := 5) rfl ?_
        have k_1 : (Int32.ofInt 5).toInt = 5 := rfl
        refine g_laload (n := 7) (f := S) rfl hp (i_in (by omega) (by omega)) ?_
        rw [i_nat k_1]
        refine g_virt4 (Qc := fun r h' => h' = h ∧ (((fltP m s S f k) ∧ r = some (.int 1)) ∨ (¬ (fltP m s S f k) ∧ r = some (.int 0)))) rfl (by decide) rfl F.1 rfl (Nat.le_of_ble_eq_true rfl) (s_hasFault (by omega) F g r sI hk5 (PT_inN hn.1 P (by omega)) (PT_inN hn.1 P (by decide)) (PT_dj hn.1 P (by omega) (by decide) (by omega)) ⟨h2, by omega⟩) (fun r h hq9 => ?_)
        obtain ⟨rfl, ⟨c_2, rfl⟩ | ⟨c_2, rfl⟩⟩ := hq9
        · skip
          rw [fst1_y c_2]
          refine g_if_eq 87 rfl rfl (fun hc => absurd hc (by decide)) (fun _ => ?_)
          refine g_bipush (n := 100) rfl ?_
          refine g_iload (i := 4) rfl rfl ?_
          refine g_imul rfl ?_
          refine g_iload (i := 5) rfl rfl ?_
          refine g_iadd rfl ?_
          refine g_ireturn (ty := .int) rfl rfl rfl ?_
          refine ⟨rfl, congrArg (fun z => some (Value.int z)) ?_⟩
          show _ = Int32.ofNat (100 * f + k)
          refine Int32.toInt_inj.mp ?_
          have eh : (Int8.ofInt 100).toInt32.toInt = ((100 : Nat) : Int) := rfl
          have em : ((Int8.ofInt 100).toInt32 * Int32.ofNat f).toInt = ((100 * f : Nat) : Int) := n_mul eh ef (by omega)
          rw [i_add (by rw [em, ek]; omega) (by rw [em, ek]; omega), em, ek, ofC_toInt (by omega)]
          omega
        · skip
          rw [fst1_n c_2]
          refine g_if_eq 87 rfl rfl (fun _ => ?_) (fun hc => absurd hc (by decide))
          refine g_iinc (i := 5) (L1 := [some (.ref 5), some (.ref p), some (.long x6), none, some (.int (Int32.ofNat f)), some (.int ((Int32.ofNat k) + Int32.ofInt 1))]) rfl rfl rfl ?_
          rw [ofN_add (by omega)]
          refine g_goto 45 rfl rfl ?_
          exact ih (k + 1) (by omega)
    refine g_iload (i := 4) rfl rfl ?_
    refine g_iconst (n := 5) rfl ?_
    refine g_icmp_gt 99 rfl rfl (fun hc => absurd hc (by rw [i_lt, ef, e5]; omega)) (fun _ => ?_)
    refine g_iconst (n := 0) rfl ?_
    refine g_istore (i := 5) (L1 := [some (.ref 5), some (.ref p), some (.long x6), none, some (.int (Int32.ofNat f)), some (.int (Int32.ofInt 0))]) rfl (Nat.le_of_ble_eq_true rfl) rfl ?_
    exact inn s.2.2 0 (Nat.zero_add _)
theorem s_verd11 {d : Nat} {h : sHp} {c : CF} {m : MF} {s : Sg} {S : Nat → Int64} {ow : Nat → Int32} {p : Nat} (hd : 7 ≤ d) (F : FC h 5 c) (g : gdF c s.1 s.2.1) (r : RB c m) (sI : sgI c s) (hp : h[p]? = some (.inl (1, 7, .inr (.inl S)))) (P : PT S ow (s.1 * s.2.1)) : sDo d 48 [.ref 5, .ref p] h (fun r h' => h' = h ∧ r = some (.int (vdI (vdA m s S)))) := by
  have e6 : (Int8.ofInt 6).toInt32.toInt = ((6 : Nat) : Int) := rfl
  refine sDo_of1 (nL := 6) (L := [some (.ref 5), some (.ref p), none, none, none, none]) (by omega) rfl rfl ?_
  refine g_aload_n (i := 1) rfl rfl ?_
  refine g_alen rfl hp (by decide) ?_
  refine g_bipush (n := 7) rfl ?_
  refine g_icmp_ge 9 rfl rfl (fun _ => ?_) (fun hc => absurd hc (by exact fun z => z (by decide)))
  refine g_aload_n (i := 1) rfl rfl ?_
  refine g_bipush (n := 6) rfl ?_
  refine g_laload (n := 7) (f := S) rfl hp (i_in (by omega) (by omega)) ?_
  rw [i_nat e6]
  refine g_lstore_n (i := 2) (L1 := [some (.ref 5), some (.ref p), some (.long (S 6)), none, none, none]) rfl (Nat.le_of_ble_eq_true rfl) rfl ?_
  refine g_lload_n (i := 2) rfl rfl ?_
  refine g_lconst (n := 0) rfl ?_
  show sGo none 48 _ 16 [some (.ref 5), some (.ref p), some (.long (S 6)), none, none, none] [.long (Int64.ofNat 0), .long (S 6)] _ _
  refine g_lcmp rfl ?_
  refine g_if_eq 33 rfl rfl (fun c_1 => ?_) (fun c_1 => ?_)
  · skip
    rw [lc_eq] at c_1
    refine g_iconst (n := 2) rfl ?_
    refine g_istore (i := 4) (L1 := [some (.ref 5), some (.ref p), some (.long (S 6)), none, some (.int (Int32.ofInt 2)), none]) rfl (Nat.le_of_ble_eq_true rfl) rfl ?_
    unfold vdA
    rw [if_pos c_1]
    exact s_verd_go (d := d - 1) (by omega) F g r sI hp P 4 2 _ (by decide) (by decide)
  · skip
    rw [lc_eq] at c_1
    refine g_bipush (n := 100) rfl ?_
    refine g_lload_n (i := 2) rfl rfl ?_
    refine g_lload_n (i := 2) rfl rfl ?_
    refine g_lneg rfl ?_
    refine g_land rfl ?_
    refine g_lconst (n := 1) rfl ?_
    show sGo none 48 _ 27 [some (.ref 5), some (.ref p), some (.long (S 6)), none, none, none] [.long (Int64.ofNat 1), .long ((S 6) &&& (-(S 6))), .int (Int8.ofInt 100).toInt32] _ _
    refine g_lsub rfl ?_
    refine g_static1 (Qc := fun r h' => h' = h ∧ r = some (.int (Int32.ofNat (cnt ((((S 6) &&& (-(S 6))) - (Int64.ofNat 1))))))) rfl (by decide) rfl (Nat.le_of_ble_eq_true rfl) (s_bitCount (by omega)) (fun r h hq9 => ?_)
    obtain ⟨rfl, rfl⟩ := hq9
    refine g_iadd rfl ?_
    refine g_ireturn (ty := .int) rfl rfl rfl ?_
    refine ⟨rfl, congrArg (fun z => some (Value.int z)) ?_⟩
    unfold vdA
    rw [if_neg c_1]
    show _ = Int32.ofNat (100 * 1 + lowB (S 6))
    rw [show (Int8.ofInt 100).toInt32 = Int32.ofNat 100 from rfl]
    exact ofB_plus (by have := cnt_le ((S 6 &&& -(S 6)) - Int64.ofNat 1); omega)
