/-! ===== the run with unknown numbers: terms for values, bounds for ints ===== -/
abbrev aIn : Type := (Nat → Int32) × (Nat → Int64) × (Nat → va_E)
abbrev tM : Type := Jvm.Term
def vI (v : Value) : Int32 := match v with
  | .int x => x
  | _ => 0
def vL (v : Value) : Int64 := match v with
  | .long x => x
  | _ => 0
def vR (v : Value) : Option Nat := match v with
  | .ref k => some k
  | _ => none
def o2 (o : Jvm.Binary) (x y : Value) : Value := match o with
  | .iand => .int (vI x &&& vI y)
  | .ior => .int (vI x ||| vI y)
  | .ixor => .int (vI x ^^^ vI y)
  | .ishl => .int (vI x <<< (vI y &&& 31))
  | .ishr => .int (vI x >>> (vI y &&& 31))
  | .ladd => .long (vL x + vL y)
  | .lsub => .long (vL x - vL y)
  | .land => .long (vL x &&& vL y)
  | .lor => .long (vL x ||| vL y)
  | .lxor => .long (vL x ^^^ vL y)
  | .lshl => .long (vL x <<< ((vI y).toInt64 &&& 63))
  | .lshr => .long (vL x >>> ((vI y).toInt64 &&& 63))
  | .lushr => .long ((vL x).toUInt64 >>> ((vI y).toInt64.toUInt64 &&& Int64.toUInt64 63)).toInt64
  | .lcmp => .int (lg_cmp (vL x) (vL y))
  | _ => .null
def k2 (o : Jvm.Binary) : Nat := match o with
  | .iand => 0
  | .ior => 0
  | .ixor => 0
  | .ishl => 0
  | .ishr => 0
  | .lcmp => 0
  | .ladd => 1
  | .lsub => 1
  | .land => 1
  | .lor => 1
  | .lxor => 1
  | .lshl => 1
  | .lshr => 1
  | .lushr => 1
  | _ => 3
def o1 (o : Jvm.Unary) (x : Value) : Value := match o with
  | .ineg => .int (-(vI x))
  | .lneg => .long (-(vL x))
  | .i2l => .long (vI x).toInt64
  | .l2i => .int (vL x).toInt32
  | .i2b => .int (vI x).toInt8.toInt32
  | .i2s => .int (vI x).toInt16.toInt32
  | .i2c => .int ((vI x).toUInt32 % 65536).toInt32
  | _ => .null
def k1 (o : Jvm.Unary) : Nat := match o with
  | .ineg => 0
  | .l2i => 0
  | .i2b => 0
  | .i2s => 0
  | .i2c => 0
  | .lneg => 1
  | .i2l => 1
  | _ => 3
def eT (ι : aIn) (t : tM) : Value := match t with
  | .int v => .int v
  | .long v => .long v
  | .arg i => if i < 1000 then .int (ι.1 i) else .long (ι.2.1 (i - 1000))
  | .index k => .ref k
  | .add a b => .int (vI (eT ι a) + vI (eT ι b))
  | .sub a b => .int (vI (eT ι a) - vI (eT ι b))
  | .mul a b => .int (vI (eT ι a) * vI (eT ι b))
  | .div a b => .int (vI (eT ι a) / vI (eT ι b))
  | .rem a b => .int (vI (eT ι a) - vI (eT ι a) / vI (eT ι b) * vI (eT ι b))
  | .op2 o a b => o2 o (eT ι a) (eT ι b)
  | .op1 o a => o1 o (eT ι a)
  | _ => .null
/-- int 0, long 1, reference 2 -/
def kT (t : tM) : Nat := match t with
  | .int _ => 0
  | .long _ => 1
  | .arg i => if i < 1000 then 0 else 1
  | .index _ => 2
  | .null => 2
  | .add _ _ => 0
  | .sub _ _ => 0
  | .mul _ _ => 0
  | .div _ _ => 0
  | .rem _ _ => 0
  | .op2 o _ _ => k2 o
  | .op1 o _ => k1 o
  | _ => 3
theorem kT_0 {ι : aIn} {t : tM} (h : kT t = 0) : eT ι t = .int (vI (eT ι t)) := by
  cases t <;> first | rfl | (simp [kT] at h; done) | skip
  · rename_i i
    unfold eT
    by_cases hi : i < 1000
    · rw [if_pos hi]; rfl
    · simp [kT, hi] at h
  · rename_i o a b
    cases o <;> first | rfl | (simp [kT, k2] at h)
  · rename_i o a
    cases o <;> first | rfl | (simp [kT, k1] at h)
theorem kT_1 {ι : aIn} {t : tM} (h : kT t = 1) : eT ι t = .long (vL (eT ι t)) := by
  cases t <;> first | rfl | (simp [kT] at h; done) | skip
  · rename_i i
    unfold eT
    by_cases hi : i < 1000
    · simp [kT, hi] at h
    · rw [if_neg hi]; rfl
  · rename_i o a b
    cases o <;> first | rfl | (simp [kT, k2] at h)
  · rename_i o a
    cases o <;> first | rfl | (simp [kT, k1] at h)
theorem kT_2 {ι : aIn} {t : tM} (h : kT t = 2) : (∃ k, t = .index k) ∨ t = .null := by
  cases t <;> first | exact Or.inl ⟨_, rfl⟩ | exact Or.inr rfl | (simp [kT] at h; done) | skip
  · rename_i i
    by_cases hi : i < 1000 <;> simp [kT, hi] at h
  · rename_i o a b
    cases o <;> simp [kT, k2] at h
  · rename_i o a
    cases o <;> simp [kT, k1] at h
theorem kT_eT {ι : aIn} {t : tM} {x : Int64} (h : eT ι t = .long x) : kT t = 1 := by
  unfold eT at h
  split at h
  all_goals first | rfl | (cases h; done) | skip
  · rename_i i
    split at h
    · cases h
    · rename_i hi
      simp [kT, hi]
  · rename_i o a b
    cases o <;> first | rfl | (cases h)
  · rename_i o a
    cases o <;> first | rfl | (cases h)
theorem eT_cat (ι : aIn) (t : tM) : (eT ι t).category = if kT t = 1 then 2 else 1 := by
  by_cases h : kT t = 1
  · rw [kT_1 h, if_pos h]; rfl
  · rw [if_neg h]
    cases he : eT ι t with
    | long x => exact absurd (kT_eT he) h
    | double x =>
      exfalso
      unfold eT at he
      split at he
      all_goals first | (cases he; done) | skip
      · split at he <;> cases he
      · rename_i o a b
        cases o <;> cases he
      · rename_i o a
        cases o <;> cases he
    | _ => rfl
theorem eT_nd (ι : aIn) (t : tM) : sNd (eT ι t) = true := by
  cases he : eT ι t with
  | double x =>
    exfalso
    unfold eT at he
    split at he
    all_goals first | (cases he; done) | skip
    · split at he <;> cases he
    · rename_i o a b
      cases o <;> cases he
    · rename_i o a
      cases o <;> cases he
  | _ => rfl
/-! numbers brought to one shape -/
def aFc {α : Type} (z : Int) (f : Int → α) : α := match z with
  | .ofNat n => (match n with
    | 0 => f 0
    | m + 1 => f (Int.ofNat (m + 1)))
  | .negSucc n => (match n with
    | 0 => f (Int.negSucc 0)
    | m + 1 => f (Int.negSucc (m + 1)))
theorem aFc_eq {α : Type} (z : Int) (f : Int → α) : aFc z f = f z := by
  cases z with
  | ofNat n => cases n <;> rfl
  | negSucc n => cases n <;> rfl
def aF {α : Type} (n : Nat) (f : Nat → α) : α := match n with
  | 0 => f 0
  | m + 1 => f (m + 1)
theorem aF_eq {α : Type} (n : Nat) (f : Nat → α) : aF n f = f n := by cases n <;> rfl
def aCi (z : Int) : tM := aFc z (fun z => .int (Int32.ofInt z))
def aCl (x : Int64) : tM := aFc x.toInt (fun z => .long (Int64.ofInt z))
theorem aCi_ok (ι : aIn) (z : Int) : eT ι (aCi z) = .int (Int32.ofInt z) := by unfold aCi; rw [aFc_eq]; rfl
theorem aCl_ok (ι : aIn) (x : Int64) : eT ι (aCl x) = .long x := by unfold aCl; rw [aFc_eq]; show Value.long _ = _; rw [Int64.ofInt_toInt]
theorem aCi_k (z : Int) : kT (aCi z) = 0 := by unfold aCi; rw [aFc_eq]; rfl
theorem aCl_k (x : Int64) : kT (aCl x) = 1 := by unfold aCl; rw [aFc_eq]; rfl
/-! the same term -/
def tBq : Nat → tM → tM → Bool
  | 0, _, _ => false
  | n + 1, a, b => match a with
    | .int x => (match b with
      | .int y => decide (x.toInt = y.toInt)
      | _ => false)
    | .long x => (match b with
      | .long y => decide (x.toInt = y.toInt)
      | _ => false)
    | .null => (match b with
      | .null => true
      | _ => false)
    | .index k => (match b with
      | .index j => Nat.beq k j
      | _ => false)
    | .arg k => (match b with
      | .arg j => Nat.beq k j
      | _ => false)
    | .add p q => (match b with
      | .add r s => tBq n p r && tBq n q s
      | _ => false)
    | .sub p q => (match b with
      | .sub r s => tBq n p r && tBq n q s
      | _ => false)
    | .mul p q => (match b with
      | .mul r s => tBq n p r && tBq n q s
      | _ => false)
    | .div p q => (match b with
      | .div r s => tBq n p r && tBq n q s
      | _ => false)
    | .rem p q => (match b with
      | .rem r s => tBq n p r && tBq n q s
      | _ => false)
    | .op2 o p q => (match b with
      | .op2 o' r s => decide (o = o') && (tBq n p r && tBq n q s)
      | _ => false)
    | .op1 o p => (match b with
      | .op1 o' r => decide (o = o') && tBq n p r
      | _ => false)
    | _ => false
theorem tBq_eq : ∀ (n : Nat) (a b : tM), tBq n a b = true → a = b := by
  intro n
  induction n with
  | zero => intro a b h; cases h
  | succ n ih =>
    intro a b h
    unfold tBq at h
    split at h
    all_goals (try split at h)
    all_goals first | (cases h; done) | rfl | skip
    · rw [Int32.toInt_inj.mp (of_decide_eq_true h)]
    · rw [Int64.toInt_inj.mp (of_decide_eq_true h)]
    · rw [Nat.eq_of_beq_eq_true h]
    · rw [Nat.eq_of_beq_eq_true h]
    all_goals
      simp only [Bool.and_eq_true, decide_eq_true_eq] at h
      first
      | (obtain ⟨h1, h2⟩ := h; rw [ih _ _ h1, ih _ _ h2]; done)
      | (obtain ⟨h0, h1, h2⟩ := h; rw [h0, ih _ _ h1, ih _ _ h2]; done)
      | (obtain ⟨h0, h1⟩ := h; rw [h0, ih _ _ h1]; done)
/-! bounds -/
abbrev aG : Type := List (tM × Int × Int)
abbrev aZ (ι : aIn) (t : tM) : Int := (vI (eT ι t)).toInt
def aOk (ι : aIn) (G : aG) : Prop := ∀ e ∈ G, e.2.1 ≤ aZ ι e.1 ∧ aZ ι e.1 ≤ e.2.2
def aW (v : Int) (p : Int × Int) : Prop := p.1 ≤ v ∧ v ≤ p.2
def aFull : Int × Int := (-2147483648, 2147483647)
theorem aFull_ok (x : Int32) : aW x.toInt aFull := by
  have h1 := x.le_toInt
  have h2 := x.toInt_lt
  unfold aW aFull
  constructor <;> simp <;> omega
def aOr (t : tM) : aG → Option (Int × Int)
  | [] => none
  | e :: r => bif tBq 24 e.1 t then some e.2 else aOr t r
theorem aOr_ok {ι : aIn} {t : tM} {p : Int × Int} : ∀ {G : aG}, aOk ι G → aOr t G = some p → aW (aZ ι t) p := by
  intro G
  induction G with
  | nil => intro _ h; cases h
  | cons e r ih =>
    intro hG h
    unfold aOr at h
    cases hb : tBq 24 e.1 t with
    | true =>
      rw [hb] at h
      have h1 := hG e List.mem_cons_self
      rw [tBq_eq _ _ _ hb] at h1
      cases h
      exact h1
    | false =>
      rw [hb] at h
      exact ih (fun e he => hG e (List.mem_cons_of_mem _ he)) h
def aMt (o : Option (Int × Int)) (d : Int × Int) : Int × Int := match o with
  | some e => (max e.1 d.1, min e.2 d.2)
  | none => d
theorem aMt_ok {ι : aIn} {t : tM} {G : aG} {d : Int × Int} (hG : aOk ι G) (hd : aW (aZ ι t) d) : aW (aZ ι t) (aMt (aOr t G) d) := by
  unfold aMt
  cases h : aOr t G with
  | none => exact hd
  | some e =>
    have h1 := aOr_ok hG h
    unfold aW at h1 hd ⊢
    dsimp only
    omega
def aRg (p : Int × Int) : Int × Int := if -2147483648 ≤ p.1 ∧ p.2 ≤ 2147483647 then p else aFull
theorem aRg_ok {z : Int} {p : Int × Int} {x : Int32} (hx : x.toInt = z.bmod (2 ^ 32)) (hz : aW z p) : aW x.toInt (aRg p) := by
  unfold aRg
  split
  · unfold aW at hz
    have e : z.bmod (2 ^ 32) = z := Int.bmod_eq_of_le (by omega) (by omega)
    rw [hx, e]
    exact hz
  · exact aFull_ok x
def aMl (p q : Int × Int) : Int × Int := if 0 ≤ p.1 ∧ 0 ≤ q.1 then aRg (p.1 * q.1, p.2 * q.2) else aFull
theorem aMl_ok {x y z : Int32} {p q : Int × Int} (hz : z.toInt = (x.toInt * y.toInt).bmod (2 ^ 32)) (hx : aW x.toInt p) (hy : aW y.toInt q) : aW z.toInt (aMl p q) := by
  unfold aMl
  split
  · rename_i h
    refine aRg_ok hz ?_
    unfold aW at hx hy ⊢
    exact ⟨Int.mul_le_mul hx.1 hy.1 h.2 (by omega), Int.mul_le_mul hx.2 hy.2 (by omega) (by omega)⟩
  · exact aFull_ok z
def aDv (p : Int × Int) (c : Int) : Int × Int := if 0 < c then (p.1.tdiv c, p.2.tdiv c) else aFull
theorem aDv_ok {x y : Int32} {p : Int × Int} (hx : aW x.toInt p) : aW (x / y).toInt (aDv p y.toInt) := by
  unfold aDv
  split
  · rename_i h
    have e : (x / y).toInt = x.toInt.tdiv y.toInt := Int32.toInt_div_of_ne_right _ _ (fun z => by rw [z] at h; exact absurd h (by decide))
    rw [e]
    exact ⟨Int.tdiv_le_tdiv h hx.1, Int.tdiv_le_tdiv h hx.2⟩
  · exact aFull_ok _
theorem a_rem {x y : Int32} (h : 0 < y.toInt) : (x - x / y * y).toInt = x.toInt.tmod y.toInt := by
  have e : (x / y).toInt = x.toInt.tdiv y.toInt := Int32.toInt_div_of_ne_right _ _ (fun z => by rw [z] at h; exact absurd h (by decide))
  have h1 := Int.tdiv_mul_add_tmod x.toInt y.toInt
  have h3 := x.le_toInt
  have h4 := x.toInt_lt
  have h5 := y.toInt_lt
  have h6 : -(y.toInt) < x.toInt.tmod y.toInt ∧ x.toInt.tmod y.toInt < y.toInt := ⟨by
    by_cases hx : 0 ≤ x.toInt
    · have := Int.tmod_nonneg y.toInt hx; omega
    · have h7 := Int.tmod_lt_of_pos (-x.toInt) h
      rw [Int.neg_tmod] at h7
      omega, Int.tmod_lt_of_pos _ h⟩
  have h8 : (0 ≤ x.toInt → 0 ≤ x.toInt.tmod y.toInt) ∧ (x.toInt ≤ 0 → x.toInt.tmod y.toInt ≤ 0) := ⟨fun hx => Int.tmod_nonneg _ hx, fun hx => by
    have h7 := Int.tmod_nonneg y.toInt (a := -x.toInt) (by omega)
    rw [Int.neg_tmod] at h7
    omega⟩
  have h9 : (0 ≤ x.toInt → 0 ≤ x.toInt.tdiv y.toInt * y.toInt) ∧ (x.toInt ≤ 0 → x.toInt.tdiv y.toInt * y.toInt ≤ 0) := ⟨fun hx => Int.mul_nonneg (Int.tdiv_nonneg hx (by omega)) (by omega), fun hx => by
    have h7 : 0 ≤ (-x.toInt).tdiv y.toInt * y.toInt := Int.mul_nonneg (Int.tdiv_nonneg (by omega) (by omega)) (by omega)
    rw [Int.neg_tdiv, Int.neg_mul] at h7
    omega⟩
  rw [Int32.toInt_sub, Int32.toInt_mul, e]
  have e2 : (x.toInt.tdiv y.toInt * y.toInt).bmod (2 ^ 32) = x.toInt.tdiv y.toInt * y.toInt := by
    generalize x.toInt.tdiv y.toInt * y.toInt = q at *
    exact Int.bmod_eq_of_le (by omega) (by omega)
  rw [e2]
  generalize x.toInt.tdiv y.toInt * y.toInt = q at *
  rw [Int.bmod_eq_of_le (by omega) (by omega)]
  omega
def aRm (p : Int × Int) (c : Int) : Int × Int := if 0 < c then (if 0 ≤ p.1 then (0, c - 1) else (-(c - 1), c - 1)) else aFull
theorem aRm_ok {x y : Int32} {p : Int × Int} (hx : aW x.toInt p) : aW (x - x / y * y).toInt (aRm p y.toInt) := by
  unfold aRm
  split
  · rename_i h
    rw [a_rem h]
    have h1 := Int.tmod_lt_of_pos x.toInt h
    have h7 := Int.tmod_lt_of_pos (-x.toInt) h
    rw [Int.neg_tmod] at h7
    unfold aW at hx
    split
    · have h2 := Int.tmod_nonneg y.toInt (a := x.toInt) (by omega)
      unfold aW
      dsimp only
      omega
    · unfold aW
      dsimp only
      omega
  · exact aFull_ok _
def aAn (c : Int) : Int × Int := if 0 ≤ c then (0, c) else aFull
theorem aAn_ok (x m : Int32) : aW (x &&& m).toInt (aAn m.toInt) := by
  unfold aAn
  split
  · rename_i hm
    obtain ⟨j, hj, rfl⟩ := nI_of (x := m) (by rw [Int32.lt_iff_toInt_lt]; show ¬ m.toInt < 0; omega)
    have hb : ((x &&& nI j).toBitVec.toNat) ≤ j := by
      show (x.toBitVec &&& (nI j).toBitVec).toNat ≤ j
      rw [BitVec.toNat_and, pk_tn (by omega)]
      exact Nat.and_le_right
    rw [nI_toInt hj]
    have hx : (x &&& nI j) = nI ((x &&& nI j).toBitVec.toNat) := by
      apply Int32.toBitVec_inj.mp
      apply BitVec.eq_of_toNat_eq
      rw [pk_tn (by omega)]
    rw [hx, nI_toInt (by omega)]
    unfold aW
    dsimp only
    omega
  · exact aFull_ok _
theorem aCm_ok (x y : Int64) : aW (lg_cmp x y).toInt (-1, 1) := by
  unfold lg_cmp
  split
  · exact ⟨by decide, by decide⟩
  · split
    · exact ⟨by decide, by decide⟩
    · exact ⟨by decide, by decide⟩
def aIv : Nat → aG → tM → Int × Int
  | 0, _, _ => aFull
  | n + 1, G, t => match t with
    | .int x => (x.toInt, x.toInt)
    | .arg i => aMt (aOr (.arg i) G) aFull
    | .add a b => aMt (aOr (.add a b) G) (aRg ((aIv n G a).1 + (aIv n G b).1, (aIv n G a).2 + (aIv n G b).2))
    | .sub a b => aMt (aOr (.sub a b) G) (aRg ((aIv n G a).1 - (aIv n G b).2, (aIv n G a).2 - (aIv n G b).1))
    | .mul a b => aMt (aOr (.mul a b) G) (aMl (aIv n G a) (aIv n G b))
    | .div a (.int c) => aMt (aOr (.div a (.int c)) G) (aDv (aIv n G a) c.toInt)
    | .rem a (.int c) => aMt (aOr (.rem a (.int c)) G) (aRm (aIv n G a) c.toInt)
    | .op2 .lcmp a b => aMt (aOr (.op2 .lcmp a b) G) (-1, 1)
    | .op2 .iand a (.int m) => aMt (aOr (.op2 .iand a (.int m)) G) (aAn m.toInt)
    | t => aMt (aOr t G) aFull
theorem aIv_ok {ι : aIn} {G : aG} (h : aOk ι G) : ∀ (n : Nat) (t : tM), aW (aZ ι t) (aIv n G t) := by
  intro n
  induction n with
  | zero => intro t; exact aFull_ok _
  | succ n ih =>
    intro t
    unfold aIv
    split
    · exact ⟨Int.le_refl _, Int.le_refl _⟩
    · exact aMt_ok h (aFull_ok _)
    · rename_i a b
      refine aMt_ok h (aRg_ok (Int32.toInt_add _ _) ?_)
      have h1 := ih a
      have h2 := ih b
      unfold aW at h1 h2 ⊢
      dsimp only
      unfold aZ at h1 h2
      omega
    · rename_i a b
      refine aMt_ok h (aRg_ok (Int32.toInt_sub _ _) ?_)
      have h1 := ih a
      have h2 := ih b
      unfold aW at h1 h2 ⊢
      dsimp only
      unfold aZ at h1 h2
      omega
    · rename_i a b
      exact aMt_ok h (aMl_ok (Int32.toInt_mul _ _) (ih a) (ih b))
    · rename_i a c
      exact aMt_ok h (aDv_ok (y := c) (ih a))
    · rename_i a c
      exact aMt_ok h (aRm_ok (y := c) (ih a))
    · exact aMt_ok h (aCm_ok _ _)
    · exact aMt_ok h (aAn_ok _ _)
    · exact aMt_ok h (aFull_ok _)
def aNm (G : aG) (t : tM) : tM := match t with
  | .int x => .int x
  | .long x => .long x
  | .index k => .index k
  | .null => .null
  | t => if kT t = 0 then (if (aIv 6 G t).1 = (aIv 6 G t).2 then aCi (aIv 6 G t).1 else t) else t
theorem aNm_ok {ι : aIn} {G : aG} (h : aOk ι G) (t : tM) : eT ι (aNm G t) = eT ι t := by
  unfold aNm
  split
  any_goals rfl
  split
  · rename_i hk
    split
    · rename_i he
      have h1 := aIv_ok h 6 t
      unfold aW aZ at h1
      rw [kT_0 hk, aCi_ok]
      rw [show (aIv 6 G t).1 = (vI (eT ι t)).toInt by omega, Int32.ofInt_toInt]
    · rfl
  · rfl
theorem aNm_k (G : aG) (t : tM) : kT (aNm G t) = kT t := by
  unfold aNm
  split
  any_goals rfl
  split
  · rename_i hk
    split
    · rw [hk]; exact aCi_k _
    · rfl
  · rfl
def aLit (v : Value) (t : tM) : tM := match v with
  | .int w => aCi w.toInt
  | .long w => aCl w
  | _ => t
/-- constants put together -/
def aFo (t : tM) : tM := match t with
  | .add (.int x) (.int y) => aCi (x.toInt + y.toInt)
  | .sub (.int x) (.int y) => aCi (x.toInt - y.toInt)
  | .mul (.int x) (.int y) => aCi (x.toInt * y.toInt)
  | .div (.int x) (.int y) => aCi (x / y).toInt
  | .rem (.int x) (.int y) => aCi (x - x / y * y).toInt
  | .op2 o (.int x) (.int y) => aLit (o2 o (.int x) (.int y)) t
  | .op2 o (.long x) (.long y) => aLit (o2 o (.long x) (.long y)) t
  | .op2 o (.long x) (.int y) => aLit (o2 o (.long x) (.int y)) t
  | .op2 .land (.long x) y => if x.toInt = 0 then .long 0 else .op2 .land (.long x) y
  | .op2 .land y (.long x) => if x.toInt = 0 then .long 0 else .op2 .land y (.long x)
  | .op1 o (.int x) => aLit (o1 o (.int x)) t
  | .op1 o (.long x) => aLit (o1 o (.long x)) t
  | t => t
theorem aLit_ok {ι : aIn} {v : Value} {t : tM} (h : eT ι t = v) : eT ι (aLit v t) = eT ι t := by
  unfold aLit
  split
  · rw [aCi_ok, Int32.ofInt_toInt]; exact h.symm
  · rw [aCl_ok]; exact h.symm
  · rfl
theorem a_l0 {x : Int64} (h : x.toInt = 0) : x = 0 := Int64.toInt_inj.mp h
theorem aFo_ok (ι : aIn) (t : tM) : eT ι (aFo t) = eT ι t := by
  unfold aFo
  split
  · rw [aCi_ok, Int32.ofInt_add, Int32.ofInt_toInt, Int32.ofInt_toInt]; rfl
  · rw [aCi_ok, Int32.ofInt_sub, Int32.ofInt_toInt, Int32.ofInt_toInt]; rfl
  · rw [aCi_ok, Int32.ofInt_mul, Int32.ofInt_toInt, Int32.ofInt_toInt]; rfl
  · rw [aCi_ok, Int32.ofInt_toInt]; rfl
  · rw [aCi_ok, Int32.ofInt_toInt]; rfl
  · exact aLit_ok rfl
  · exact aLit_ok rfl
  · exact aLit_ok rfl
  · split
    · rename_i hx
      rw [a_l0 hx]
      show Value.long 0 = .long (0 &&& _)
      rw [Int64.zero_and]
    · rfl
  · split
    · rename_i hx
      rw [a_l0 hx]
      show Value.long 0 = .long (_ &&& 0)
      rw [Int64.and_zero]
    · rfl
  · exact aLit_ok rfl
  · exact aLit_ok rfl
  · rfl
/-- all the way down -/
def aDp : Nat → aG → tM → tM
  | 0, _, t => t
  | n + 1, G, t => match t with
    | .add a b => aNm G (aFo (.add (aDp n G a) (aDp n G b)))
    | .sub a b => aNm G (aFo (.sub (aDp n G a) (aDp n G b)))
    | .mul a b => aNm G (aFo (.mul (aDp n G a) (aDp n G b)))
    | .div a b => aNm G (aFo (.div (aDp n G a) (aDp n G b)))
    | .rem a b => aNm G (aFo (.rem (aDp n G a) (aDp n G b)))
    | .op2 o a b => aNm G (aFo (.op2 o (aDp n G a) (aDp n G b)))
    | .op1 o a => aNm G (aFo (.op1 o (aDp n G a)))
    | t => aNm G t
theorem aDp_ok {ι : aIn} {G : aG} (h : aOk ι G) : ∀ (n : Nat) (t : tM), eT ι (aDp n G t) = eT ι t := by
  intro n
  induction n with
  | zero => intro t; rfl
  | succ n ih =>
    intro t
    unfold aDp
    split
    all_goals rw [aNm_ok h]
    all_goals
      rw [aFo_ok]
      simp only [eT, ih]
theorem aDp_k {ι : aIn} {G : aG} (h : aOk ι G) (n : Nat) (t : tM) : vI (eT ι (aDp n G t)) = vI (eT ι t) := by rw [aDp_ok h]
