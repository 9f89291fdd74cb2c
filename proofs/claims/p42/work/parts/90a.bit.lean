/-! ===== bits of a long ===== -/
theorem nTF {b : Bool} (h : ¬ b = true) : b = false := Bool.eq_false_iff.mpr h
def zI (P : Prop) [Decidable P] : Int32 := if P then 1 else 0
theorem zI_eq0 {P : Prop} [Decidable P] : zI P = 0 ↔ ¬ P := by
  unfold zI
  by_cases h : P
  · rw [if_pos h]; exact ⟨fun z => absurd z (by decide), fun z => absurd h z⟩
  · rw [if_neg h]; exact ⟨fun _ => h, fun _ => rfl⟩
theorem zI_pos {P : Prop} [Decidable P] (h : P) : zI P = 1 := if_pos h
theorem zI_neg {P : Prop} [Decidable P] (h : ¬ P) : zI P = 0 := if_neg h
theorem zI_iff {P Q : Prop} [Decidable P] [Decidable Q] (h : P ↔ Q) : zI P = zI Q := by
  by_cases p : P
  · rw [zI_pos p, zI_pos (h.mp p)]
  · rw [zI_neg p, zI_neg (fun q => p (h.mpr q))]
theorem i_eq {x y : Int32} : x = y ↔ x.toInt = y.toInt := Int32.toInt_inj.symm
theorem lc_eq {x y : Int64} : lg_cmp x y = 0 ↔ x = y := by
  unfold lg_cmp
  constructor
  · intro h
    split at h
    · exact absurd h (by decide)
    · split at h
      · rename_i e; exact e
      · exact absurd h (by decide)
  · intro h
    subst h
    simp
theorem sDo_of1 {d k nL : Nat} {as : List Value} {h : sHp} {L : sLo} {Q : Option Value → sHp → Prop} (hd : 1 ≤ d) (hn : sNk k = some nL) (hi : sIni nL as = some L) (g : sGo none k (d - 1) 0 L [] h Q) : sDo d k as h Q := by
  obtain ⟨e, rfl⟩ : ∃ e, d = e + 1 := ⟨d - 1, by omega⟩
  exact sDo_of hn hi g
def bt (x : Int64) (i : Nat) : Bool := x.toBitVec.getLsbD i
abbrev lM1 : Int64 := Int64.ofNat 18446744073709551615
theorem bt_ext {x y : Int64} (h : ∀ i, i < 64 → bt x i = bt y i) : x = y := Int64.toBitVec_inj.mp (BitVec.eq_of_getLsbD_eq h)
theorem bt_big {x : Int64} {i : Nat} (h : 64 ≤ i) : bt x i = false := BitVec.getLsbD_of_ge _ _ h
theorem bt_and (x y : Int64) (i : Nat) : bt (x &&& y) i = (bt x i && bt y i) := BitVec.getLsbD_and
theorem bt_or (x y : Int64) (i : Nat) : bt (x ||| y) i = (bt x i || bt y i) := BitVec.getLsbD_or
theorem bt_xor (x y : Int64) (i : Nat) : bt (x ^^^ y) i = (bt x i ^^ bt y i) := BitVec.getLsbD_xor
theorem bt_0 (i : Nat) : bt (Int64.ofNat 0) i = false := BitVec.getLsbD_zero
theorem bt_m1 (i : Nat) : bt lM1 i = decide (i < 64) := by
  have e : lM1.toBitVec = BitVec.allOnes 64 := by decide
  unfold bt
  rw [e, BitVec.getLsbD_allOnes]
theorem bt_not (x : Int64) (i : Nat) : bt (x ^^^ lM1) i = (decide (i < 64) && !bt x i) := by
  rw [bt_xor, bt_m1]
  by_cases h : i < 64
  · rw [decide_eq_true h]; cases bt x i <;> rfl
  · rw [decide_eq_false h, bt_big (by omega)]; rfl
theorem bt_eq0 {x : Int64} : x = Int64.ofNat 0 ↔ ∀ i, i < 64 → bt x i = false := ⟨fun h i _ => by rw [h, bt_0], fun h => bt_ext (fun i hi => by rw [h i hi, bt_0])⟩
theorem sh_eq : ∀ k, k < 64 → ((Int32.ofNat k).toInt64 &&& 63).toBitVec.smod 64 = BitVec.ofNat 64 k := by decide +kernel
theorem ush_eq : ∀ k, k < 64 → ((Int32.ofNat k).toInt64.toUInt64 &&& Int64.toUInt64 63).toBitVec % 64 = BitVec.ofNat 64 k := by decide +kernel
theorem bt_shl {k : Nat} (hk : k < 64) (x : Int64) (i : Nat) : bt (x <<< ((Int32.ofNat k).toInt64 &&& 63)) i = (decide (i < 64) && (decide (k ≤ i) && bt x (i - k))) := by
  show (x.toBitVec <<< (((Int32.ofNat k).toInt64 &&& 63).toBitVec.smod 64)).getLsbD i = _
  rw [sh_eq k hk, BitVec.shiftLeft_eq', BitVec.toNat_ofNat, Nat.mod_eq_of_lt (by omega), BitVec.getLsbD_shiftLeft]
  by_cases h : k ≤ i
  · rw [decide_eq_true h, decide_eq_false (show ¬ i < k by omega), Bool.not_false, Bool.and_true, Bool.true_and]; rfl
  · rw [decide_eq_false h, decide_eq_true (show i < k by omega)]
    cases decide (i < 64) <;> rfl
theorem bt_ushr {k : Nat} (hk : k < 64) (x : Int64) (i : Nat) : bt ((x.toUInt64 >>> ((Int32.ofNat k).toInt64.toUInt64 &&& Int64.toUInt64 63)).toInt64) i = bt x (i + k) := by
  show (x.toBitVec >>> (((Int32.ofNat k).toInt64.toUInt64 &&& Int64.toUInt64 63).toBitVec % 64)).getLsbD i = _
  rw [ush_eq k hk, BitVec.ushiftRight_eq', BitVec.toNat_ofNat, Nat.mod_eq_of_lt (by omega), BitVec.getLsbD_ushiftRight, Nat.add_comm]
  rfl
theorem bt_lit1 (i : Nat) : bt (Int64.ofNat 1) i = decide (i = 0) := by
  show (1#64).getLsbD i = _
  rw [BitVec.getLsbD_one]
  cases i <;> rfl
theorem bt_one {k : Nat} (hk : k < 64) (i : Nat) : bt (Int64.ofNat 1 <<< ((Int32.ofNat k).toInt64 &&& 63)) i = decide (i = k) := by
  rw [bt_shl hk, bt_lit1]
  by_cases h : i = k
  · subst h; simp; omega
  · rw [decide_eq_false h]
    by_cases h2 : k ≤ i
    · rw [decide_eq_false (show ¬ i - k = 0 by omega)]; simp
    · rw [decide_eq_false h2]; simp
theorem bt_has {k : Nat} (hk : k < 64) (x : Int64) : (x >>> ((Int32.ofNat k).toInt64 &&& 63)) &&& Int64.ofNat 1 = if bt x k = true then Int64.ofNat 1 else Int64.ofNat 0 := by
  have e : ∀ i, bt (x >>> ((Int32.ofNat k).toInt64 &&& 63)) i = (x.toBitVec.sshiftRight k).getLsbD i := by
    intro i
    show (x.toBitVec.sshiftRight' (((Int32.ofNat k).toInt64 &&& 63).toBitVec.smod 64)).getLsbD i = _
    rw [sh_eq k hk]
    unfold BitVec.sshiftRight'
    rw [BitVec.toNat_ofNat, Nat.mod_eq_of_lt (by omega)]
  apply bt_ext
  intro i hi
  rw [bt_and, e, BitVec.getLsbD_sshiftRight, bt_lit1]
  by_cases h : i = 0
  · subst h
    have h2 : x.toBitVec.getLsbD (k + 0) = bt x k := rfl
    rw [if_pos (show k + 0 < 64 by omega), h2]
    by_cases hb : bt x k = true
    · rw [if_pos hb, bt_lit1, hb]; rfl
    · rw [if_neg hb, bt_0, nTF hb]; rfl
  · rw [decide_eq_false h, Bool.and_false]
    split
    · rw [bt_lit1, decide_eq_false h]
    · rw [bt_0]
/-! ===== sets by a predicate ===== -/
def stO (P : Nat → Bool) : Nat → Int64
  | 0 => Int64.ofNat 0
  | n + 1 => if P n = true then stO P n ||| (Int64.ofNat 1 <<< ((Int32.ofNat n).toInt64 &&& 63)) else stO P n
theorem bt_stO (P : Nat → Bool) : ∀ (n : Nat), n ≤ 64 → ∀ i, bt (stO P n) i = (decide (i < n) && P i) := by
  intro n
  induction n with
  | zero => intro _ i; unfold stO; rw [bt_0, decide_eq_false (Nat.not_lt_zero i)]; rfl
  | succ n ih =>
    intro hn i
    have hi := ih (by omega) i
    unfold stO
    split
    · rename_i h
      rw [bt_or, hi, bt_one (by omega)]
      by_cases e : i = n
      · subst e; rw [h]; simp
      · rw [decide_eq_false e, Bool.or_false, show decide (i < n + 1) = decide (i < n) from decide_eq_decide.mpr (by omega)]
    · rename_i h
      rw [hi]
      by_cases e : i = n
      · subst e; rw [nTF h, Bool.and_false, Bool.and_false]
      · rw [show decide (i < n + 1) = decide (i < n) from decide_eq_decide.mpr (by omega)]
theorem stO_of {x : Int64} {n : Nat} {P : Nat → Bool} (hn : n ≤ 64) (h : ∀ i, i < 64 → bt x i = (decide (i < n) && P i)) : x = stO P n := bt_ext (fun i hi => by rw [h i hi, bt_stO P n hn])
theorem stO_congr {P P' : Nat → Bool} {n : Nat} (hn : n ≤ 64) (h : ∀ i, i < n → P i = P' i) : stO P n = stO P' n := stO_of hn (fun i hi => by
  rw [bt_stO P n hn]
  by_cases e : i < n
  · rw [h i e]
  · rw [decide_eq_false e]; rfl)
/-! ===== quotients ===== -/
theorem i_div {x y : Int32} (hx : 0 ≤ x.toInt) (hy : 0 < y.toInt) : (x / y).toInt = x.toInt / y.toInt := by
  have h1 : x.toInt / y.toInt ≤ x.toInt := Int.ediv_le_self _ hx
  have h2 : 0 ≤ x.toInt / y.toInt := Int.ediv_nonneg hx (by omega)
  have h3 := Int32.toInt_lt x
  rw [Int32.toInt_div, Int.tdiv_eq_ediv_of_nonneg hx]
  exact Int.bmod_eq_of_le (by omega) (by omega)
theorem i_rem {x y : Int32} (hx : 0 ≤ x.toInt) (hy : 0 < y.toInt) : (x - x / y * y).toInt = x.toInt % y.toInt := by
  have h1 : x.toInt / y.toInt * y.toInt ≤ x.toInt := Int.ediv_mul_le _ (by omega)
  have h2 : 0 ≤ x.toInt / y.toInt * y.toInt := Int.mul_nonneg (Int.ediv_nonneg hx (by omega)) (by omega)
  have h3 := Int32.toInt_lt x
  have e1 : (x / y * y).toInt = x.toInt / y.toInt * y.toInt := by rw [i_mul (by rw [i_div hx hy]; omega) (by rw [i_div hx hy]; omega), i_div hx hy]
  rw [i_sub (by rw [e1]; omega) (by rw [e1]; omega), e1, Int.emod_def, Int.mul_comm y.toInt]
theorem n_div {x y : Int32} {X Y : Nat} (hx : x.toInt = X) (hy : y.toInt = Y) (h0 : 0 < Y) : (x / y).toInt = ((X / Y : Nat) : Int) := by
  rw [i_div (by omega) (by omega), hx, hy]; rfl
theorem n_rem {x y : Int32} {X Y : Nat} (hx : x.toInt = X) (hy : y.toInt = Y) (h0 : 0 < Y) : (x - x / y * y).toInt = ((X % Y : Nat) : Int) := by
  rw [i_rem (by omega) (by omega), hx, hy]; rfl
theorem n_mul {x y : Int32} {X Y : Nat} (hx : x.toInt = X) (hy : y.toInt = Y) (h0 : X * Y < 2147483648) : (x * y).toInt = ((X * Y : Nat) : Int) := by
  have e : ((X * Y : Nat) : Int) = (X : Int) * (Y : Int) := Int.natCast_mul X Y
  rw [i_mul (by rw [hx, hy, ← e]; omega) (by rw [hx, hy, ← e]; omega), hx, hy, e]
theorem cD_100 {c : Int32} {C : Nat} (h : c.toInt = C) : (cD c (Int8.ofInt 100).toInt32).toInt = ((C / 100 % 10 : Nat) : Int) := n_rem (n_div h (show (Int8.ofInt 100).toInt32.toInt = ((100 : Nat) : Int) from rfl) (by decide)) (show (Int8.ofInt 10).toInt32.toInt = ((10 : Nat) : Int) from rfl) (by decide)
theorem cD_10 {c : Int32} {C : Nat} (h : c.toInt = C) : (cD c (Int8.ofInt 10).toInt32).toInt = ((C / 10 % 10 : Nat) : Int) := n_rem (n_div h (show (Int8.ofInt 10).toInt32.toInt = ((10 : Nat) : Int) from rfl) (by decide)) (show (Int8.ofInt 10).toInt32.toInt = ((10 : Nat) : Int) from rfl) (by decide)
theorem cD_1 {c : Int32} {C : Nat} (h : c.toInt = C) : (cD1 c).toInt = ((C % 10 : Nat) : Int) := n_rem h (show (Int8.ofInt 10).toInt32.toInt = ((10 : Nat) : Int) from rfl) (by decide)
/-! ===== switches ===== -/
theorem g_tsIn {k d pc : Nat} {L : sLo} {st : List Value} {h : sHp} {Q : Option Value → sHp → Prop} {df lo hi off : Int} {offs : Array Int} {x : Int32} (j t : Nat) (hF : sFk k pc = some (.tableswitch df lo hi offs)) (h2 : lo ≤ x.toInt ∧ x.toInt ≤ hi) (hj : x.toInt - lo = j) (ho : offs[j]? = some off) (ht : sTgt pc off = some t) (g : sGo none k d t L st h Q) : sGo none k d pc L (.int x :: st) h Q := by
  refine go_jmp (pc1 := t) (st1 := st) hF rfl ?_ g
  show (if x.toInt < lo ∨ hi < x.toInt then _ else (match offs[(x.toInt - lo).toNat]? with
    | some off => (sTgt pc off).map (fun t => (t, st))
    | none => none)) = _
  rw [if_neg (by omega), show (x.toInt - lo).toNat = j by omega, ho]
  show (sTgt pc off).map (fun t => (t, st)) = _
  rw [ht]; rfl
theorem g_tsOut {k d pc : Nat} {L : sLo} {st : List Value} {h : sHp} {Q : Option Value → sHp → Prop} {df lo hi : Int} {offs : Array Int} {x : Int32} (t : Nat) (hF : sFk k pc = some (.tableswitch df lo hi offs)) (h2 : x.toInt < lo ∨ hi < x.toInt) (ht : sTgt pc df = some t) (g : sGo none k d t L st h Q) : sGo none k d pc L (.int x :: st) h Q := by
  refine go_jmp (pc1 := t) (st1 := st) hF rfl ?_ g
  show (if x.toInt < lo ∨ hi < x.toInt then (sTgt pc df).map (fun t => (t, st)) else _) = _
  rw [if_pos h2, ht]; rfl
