/-! ===== the run with unknown numbers: terms for values, bounds for ints ===== -/
abbrev aIn : Type := (Nat → Int32) × (Nat → Int64)
abbrev tM : Type := Jvm.Term
def vI (v : Value) : Int32 := match v with
  | .int x => x
  | _ => 0
def vL (v : Value) : Int64 := match v with
  | .long x => x
  | _ => 0
def vR (v : Value) : Option Nat := match v with
  | .ref k => some k
  | _ => none
def o2 (o : Jvm.Binary) (x y : Value) : Value := match o with
  | .iand => .int (vI x &&& vI y)
  | .ior => .int (vI x ||| vI y)
  | .ixor => .int (vI x ^^^ vI y)
  | .ishl => .int (vI x <<< (vI y &&& 31))
  | .ishr => .int (vI x >>> (vI y &&& 31))
  | .ladd => .long (vL x + vL y)
  | .lsub => .long (vL x - vL y)
  | .land => .long (vL x &&& vL y)
  | .lor => .long (vL x ||| vL y)
  | .lxor => .long (vL x ^^^ vL y)
  | .lshl => .long (vL x <<< ((vI y).toInt64 &&& 63))
  | .lshr => .long (vL x >>> ((vI y).toInt64 &&& 63))
  | .lushr => .long ((vL x).toUInt64 >>> ((vI y).toInt64.toUInt64 &&& Int64.toUInt64 63)).toInt64
  | .lcmp => .int (lg_cmp (vL x) (vL y))
  | _ => .null
def k2 (o : Jvm.Binary) : Nat := match o with
  | .iand => 0
  | .ior => 0
  | .ixor => 0
  | .ishl => 0
  | .ishr => 0
  | .lcmp => 0
  | .ladd => 1
  | .lsub => 1
  | .land => 1
  | .lor => 1
  | .lxor => 1
  | .lshl => 1
  | .lshr => 1
  | .lushr => 1
  | _ => 3
def o1 (o : Jvm.Unary) (x : Value) : Value := match o with
  | .ineg => .int (-(vI x))
  | .lneg => .long (-(vL x))
  | .i2l => .long (vI x).toInt64
  | .l2i => .int (vL x).toInt32
  | .i2b => .int (vI x).toInt8.toInt32
  | .i2s => .int (vI x).toInt16.toInt32
  | .i2c => .int ((vI x).toUInt32 % 65536).toInt32
  | _ => .null
def k1 (o : Jvm.Unary) : Nat := match o with
  | .ineg => 0
  | .l2i => 0
  | .i2b => 0
  | .i2s => 0
  | .i2c => 0
  | .lneg => 1
  | .i2l => 1
  | _ => 3
def eT (ι : aIn) (t : tM) : Value := match t with
  | .int v => .int v
  | .long v => .long v
  | .arg i => if i < 1000 then .int (ι.1 i) else .long (ι.2 (i - 1000))
  | .index k => .ref k
  | .add a b => .int (vI (eT ι a) + vI (eT ι b))
  | .sub a b => .int (vI (eT ι a) - vI (eT ι b))
  | .mul a b => .int (vI (eT ι a) * vI (eT ι b))
  | .div a b => .int (vI (eT ι a) / vI (eT ι b))
  | .rem a b => .int (vI (eT ι a) - vI (eT ι a) / vI (eT ι b) * vI (eT ι b))
  | .op2 o a b => o2 o (eT ι a) (eT ι b)
  | .op1 o a => o1 o (eT ι a)
  | _ => .null
/-- int 0, long 1, reference 2 -/
def kT (t : tM) : Nat := match t with
  | .int _ => 0
  | .long _ => 1
  | .arg i => if i < 1000 then 0 else 1
  | .index _ => 2
  | .null => 2
  | .add _ _ => 0
  | .sub _ _ => 0
  | .mul _ _ => 0
  | .div _ _ => 0
  | .rem _ _ => 0
  | .op2 o _ _ => k2 o
  | .op1 o _ => k1 o
  | _ => 3
theorem kT_0 {ι : aIn} {t : tM} (h : kT t = 0) : eT ι t = .int (vI (eT ι t)) := by
  cases t <;> first | rfl | (simp [kT] at h; done) | skip
  · rename_i i
    unfold eT
    by_cases hi : i < 1000
    · rw [if_pos hi]; rfl
    · simp [kT, hi] at h
  · rename_i o a b
    cases o <;> first | rfl | (simp [kT, k2] at h)
  · rename_i o a
    cases o <;> first | rfl | (simp [kT, k1] at h)
theorem kT_1 {ι : aIn} {t : tM} (h : kT t = 1) : eT ι t = .long (vL (eT ι t)) := by
  cases t <;> first | rfl | (simp [kT] at h; done) | skip
  · rename_i i
    unfold eT
    by_cases hi : i < 1000
    · simp [kT, hi] at h
    · rw [if_neg hi]; rfl
  · rename_i o a b
    cases o <;> first | rfl | (simp [kT, k2] at h)
  · rename_i o a
    cases o <;> first | rfl | (simp [kT, k1] at h)
theorem kT_2 {ι : aIn} {t : tM} (h : kT t = 2) : (∃ k, t = .index k) ∨ t = .null := by
  cases t <;> first | exact Or.inl ⟨_, rfl⟩ | exact Or.inr rfl | (simp [kT] at h; done) | skip
  · rename_i i
    by_cases hi : i < 1000 <;> simp [kT, hi] at h
  · rename_i o a b
    cases o <;> simp [kT, k2] at h
  · rename_i o a
    cases o <;> simp [kT, k1] at h
/-! bounds -/
abbrev aG : Type := List (tM × Int × Int)
def aOk (ι : aIn) (G : aG) : Prop := ∀ e ∈ G, e.2.1 ≤ (vI (eT ι e.1)).toInt ∧ (vI (eT ι e.1)).toInt ≤ e.2.2
def aOr (G : aG) (t : tM) (d : Int × Int) : Int × Int := match G.find? (fun e => decide (e.1 = t)) with
  | some e => e.2
  | none => d
def aFull : Int × Int := (-2147483648, 2147483647)
def aStr (t : tM) : Int × Int := match t with
  | .op2 .lcmp _ _ => (-1, 1)
  | .op2 .iand _ (.int m) => if m < 0 then aFull else (0, m.toInt)
  | _ => aFull
def aIv (G : aG) (t : tM) : Int × Int := match t with
  | .int x => (x.toInt, x.toInt)
  | t => aOr G t (aStr t)
theorem aFull_ok (x : Int32) : aFull.1 ≤ x.toInt ∧ x.toInt ≤ aFull.2 := by
  have h1 := x.le_toInt
  have h2 := x.toInt_lt
  unfold aFull
  constructor <;> simp <;> omega
theorem aOr_ok {ι : aIn} {G : aG} (h : aOk ι G) {t : tM} {d : Int × Int} (hd : d.1 ≤ (vI (eT ι t)).toInt ∧ (vI (eT ι t)).toInt ≤ d.2) : (aOr G t d).1 ≤ (vI (eT ι t)).toInt ∧ (vI (eT ι t)).toInt ≤ (aOr G t d).2 := by
  unfold aOr
  split
  · rename_i e he
    have h1 := of_decide_eq_true (List.find?_some he)
    have h2 := h e (List.mem_of_find?_eq_some he)
    rw [h1] at h2
    exact h2
  · exact hd
theorem aStr_ok (ι : aIn) (t : tM) : (aStr t).1 ≤ (vI (eT ι t)).toInt ∧ (vI (eT ι t)).toInt ≤ (aStr t).2 := by
  unfold aStr
  split
  · rename_i a b
    show (-1 : Int) ≤ (lg_cmp _ _).toInt ∧ (lg_cmp _ _).toInt ≤ 1
    unfold lg_cmp
    split
    · decide
    · split <;> decide
  · rename_i a m
    split
    · exact aFull_ok _
    · rename_i hm
      show (0 : Int) ≤ (vI (eT ι a) &&& m).toInt ∧ (vI (eT ι a) &&& m).toInt ≤ m.toInt
      obtain ⟨j, hj, rfl⟩ := nI_of hm
      have hb : ((vI (eT ι a) &&& nI j).toBitVec.toNat) ≤ j := by
        show ((vI (eT ι a)).toBitVec &&& (nI j).toBitVec).toNat ≤ j
        rw [BitVec.toNat_and, pk_tn (by omega)]
        exact Nat.and_le_right
      rw [nI_toInt hj]
      have hx : (vI (eT ι a) &&& nI j) = nI ((vI (eT ι a) &&& nI j).toBitVec.toNat) := by
        apply Int32.toBitVec_inj.mp
        apply BitVec.eq_of_toNat_eq
        rw [pk_tn (by omega)]
      rw [hx, nI_toInt (by omega)]
      omega
  · exact aFull_ok _
theorem aIv_ok {ι : aIn} {G : aG} (h : aOk ι G) (t : tM) : (aIv G t).1 ≤ (vI (eT ι t)).toInt ∧ (vI (eT ι t)).toInt ≤ (aIv G t).2 := by
  unfold aIv
  split
  · exact ⟨Int.le_refl _, Int.le_refl _⟩
  · exact aOr_ok h (aStr_ok ι _)
def aNm (G : aG) (t : tM) : tM := if kT t = 0 then (if (aIv G t).1 = (aIv G t).2 then .int (Int32.ofInt (aIv G t).1) else t) else t
theorem aNm_ok {ι : aIn} {G : aG} (h : aOk ι G) (t : tM) : eT ι (aNm G t) = eT ι t := by
  unfold aNm
  split
  · rename_i hk
    split
    · rename_i he
      have h1 := aIv_ok h t
      rw [kT_0 hk]
      show Value.int _ = _
      rw [show (aIv G t).1 = (vI (eT ι t)).toInt by omega, Int32.ofInt_toInt]
    · rfl
  · rfl
theorem aNm_k (G : aG) (t : tM) : kT (aNm G t) = kT t := by
  unfold aNm
  split
  · rename_i hk
    split
    · exact hk.symm
    · rfl
  · rfl
def aLit (v : Value) (t : tM) : tM := match v with
  | .int w => .int w
  | .long w => .long w
  | _ => t
/-- constants put together -/
def aFo (t : tM) : tM := match t with
  | .add (.int x) (.int y) => .int (x + y)
  | .sub (.int x) (.int y) => .int (x - y)
  | .mul (.int x) (.int y) => .int (x * y)
  | .div (.int x) (.int y) => .int (x / y)
  | .rem (.int x) (.int y) => .int (x - x / y * y)
  | .op2 o (.int x) (.int y) => aLit (o2 o (.int x) (.int y)) t
  | .op2 o (.long x) (.long y) => aLit (o2 o (.long x) (.long y)) t
  | .op2 o (.long x) (.int y) => aLit (o2 o (.long x) (.int y)) t
  | .op2 .land (.long 0) y => .long 0
  | .op1 o (.int x) => aLit (o1 o (.int x)) t
  | .op1 o (.long x) => aLit (o1 o (.long x)) t
  | t => t
theorem aLit_ok {ι : aIn} {v : Value} {t : tM} (h : eT ι t = v) : eT ι (aLit v t) = eT ι t := by
  unfold aLit
  split
  · exact h.symm
  · exact h.symm
  · rfl
theorem aFo_ok (ι : aIn) (t : tM) : eT ι (aFo t) = eT ι t := by
  unfold aFo
  split
  · rfl
  · rfl
  · rfl
  · rfl
  · rfl
  · exact aLit_ok rfl
  · exact aLit_ok rfl
  · exact aLit_ok rfl
  · show Value.long 0 = .long (0 &&& _)
    rw [Int64.zero_and]
  · exact aLit_ok rfl
  · exact aLit_ok rfl
  · rfl
/-! stack -/
def aB (ins : Instr) : Option (Nat × Nat × (tM → tM → tM)) := match ins with
  | .iadd => some (0, 0, .add)
  | .isub => some (0, 0, .sub)
  | .imul => some (0, 0, .mul)
  | .idiv => some (0, 0, .div)
  | .irem => some (0, 0, .rem)
  | .iand => some (0, 0, .op2 .iand)
  | .ior => some (0, 0, .op2 .ior)
  | .ixor => some (0, 0, .op2 .ixor)
  | .ishl => some (0, 0, .op2 .ishl)
  | .ishr => some (0, 0, .op2 .ishr)
  | .ladd => some (1, 1, .op2 .ladd)
  | .lsub => some (1, 1, .op2 .lsub)
  | .land => some (1, 1, .op2 .land)
  | .lor => some (1, 1, .op2 .lor)
  | .lxor => some (1, 1, .op2 .lxor)
  | .lcmp => some (1, 1, .op2 .lcmp)
  | .lshl => some (0, 1, .op2 .lshl)
  | .lshr => some (0, 1, .op2 .lshr)
  | .lushr => some (0, 1, .op2 .lushr)
  | _ => none
def aU (ins : Instr) : Option (Nat × (tM → tM)) := match ins with
  | .ineg => some (0, .op1 .ineg)
  | .lneg => some (1, .op1 .lneg)
  | .i2l => some (0, .op1 .i2l)
  | .l2i => some (1, .op1 .l2i)
  | .i2b => some (0, .op1 .i2b)
  | .i2s => some (0, .op1 .i2s)
  | .i2c => some (0, .op1 .i2c)
  | _ => none
def aK (ins : Instr) : Option tM := match ins with
  | .iconst n => some (.int (Int32.ofInt n))
  | .bipush n => some (.int (Int8.ofInt n).toInt32)
  | .sipush n => some (.int (Int16.ofInt n).toInt32)
  | .lconst n => some (.long (Int64.ofNat (n : Nat)))
  | .aconst_null => some .null
  | _ => none
def aDiv (ins : Instr) : Bool := match ins with
  | .idiv => true
  | .irem => true
  | _ => false
def a1 (t : tM) : Bool := kT t == 0 || kT t == 2
def aPure (ins : Instr) (G : aG) (st : List tM) : Option (List tM) := match aK ins with
  | some t => some (t :: st)
  | none => (match aB ins with
    | some (ky, kx, b) => (match st with
      | y :: x :: r => if kT y = ky ∧ kT x = kx ∧ (aDiv ins = true → 0 < (aIv G y).1 ∨ (aIv G y).2 < 0) then some (aFo (b (aNm G x) (aNm G y)) :: r) else none
      | _ => none)
    | none => (match aU ins with
      | some (kx, u) => (match st with
        | x :: r => if kT x = kx then some (aFo (u (aNm G x)) :: r) else none
        | _ => none)
      | none => (match ins with
        | .dup => (match st with
          | a :: r => if a1 a = true then some (a :: a :: r) else none
          | _ => none)
        | .dup_x1 => (match st with
          | a :: b :: r => if a1 a = true ∧ a1 b = true then some (a :: b :: a :: r) else none
          | _ => none)
        | .dup2 => (match st with
          | a :: b :: r => if a1 a = true ∧ a1 b = true then some (a :: b :: a :: b :: r) else none
          | _ => none)
        | .pop => (match st with
          | a :: r => if a1 a = true then some r else none
          | _ => none)
        | _ => none)))
abbrev eS (ι : aIn) (st : List tM) : List Value := st.map (eT ι)
theorem a1_cat {ι : aIn} {t : tM} (h : a1 t = true) : (eT ι t).category = 1 := by
  unfold a1 at h
  simp only [Bool.or_eq_true, beq_iff_eq] at h
  rcases h with h | h
  · rw [kT_0 h]; rfl
  · rcases kT_2 (ι := ι) h with ⟨k, rfl⟩ | rfl <;> rfl
theorem aDiv_ok {ι : aIn} {G : aG} (h : aOk ι G) {y : tM} (hy : 0 < (aIv G y).1 ∨ (aIv G y).2 < 0) : ¬ vI (eT ι y) = 0 := by
  intro e
  have h1 := aIv_ok h y
  rw [e] at h1
  have h2 : (0 : Int32).toInt = 0 := by decide
  rw [h2] at h1
  omega
theorem aB_ok {ι : aIn} {ins : Instr} {ky kx : Nat} {b : tM → tM → tM} (h : aB ins = some (ky, kx, b)) {x y : tM} (hy : kT y = ky) (hx : kT x = kx) (hd : aDiv ins = true → ¬ vI (eT ι y) = 0) (r : List Value) : sPure ins (eT ι y :: eT ι x :: r) = some (eT ι (b x y) :: r) := by
  unfold aB at h
  split at h
  case h_20 => cases h
  case h_4 =>
    cases h
    rw [kT_0 hx, kT_0 hy]
    show (if vI (eT ι y) = 0 then none else some (Value.int (vI (eT ι x) / vI (eT ι y)))).map (fun v => v :: r) = _
    rw [if_neg (hd rfl)]
    rfl
  case h_5 =>
    cases h
    rw [kT_0 hx, kT_0 hy]
    show (if vI (eT ι y) = 0 then none else some (Value.int (vI (eT ι x) - vI (eT ι x) / vI (eT ι y) * vI (eT ι y)))).map (fun v => v :: r) = _
    rw [if_neg (hd rfl)]
    rfl
  all_goals
    cases h
    first
    | (rw [kT_0 hx, kT_0 hy]; rfl)
    | (rw [kT_1 hx, kT_1 hy]; rfl)
    | (rw [kT_1 hx, kT_0 hy]; rfl)
theorem aU_ok {ι : aIn} {ins : Instr} {kx : Nat} {u : tM → tM} (h : aU ins = some (kx, u)) {x : tM} (hx : kT x = kx) (r : List Value) : sPure ins (eT ι x :: r) = some (eT ι (u x) :: r) := by
  unfold aU at h
  split at h <;> cases h
  all_goals first | (rw [kT_0 hx]; rfl) | (rw [kT_1 hx]; rfl)
