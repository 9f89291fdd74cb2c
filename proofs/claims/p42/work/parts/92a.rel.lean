/-! ===== how many bits ===== -/
def vl : List Nat → Nat
  | [] => 0
  | b :: l => b + 256 * vl l
theorem and_lane {a m Z M : Nat} (ha : a < 256) (hm : m < 256) : (a + 256 * Z) &&& (m + 256 * M) = (a &&& m) + 256 * (Z &&& M) := by
  have h1 : a &&& m < 2 ^ 8 := Nat.and_lt_two_pow _ hm
  apply Nat.eq_of_testBit_eq
  intro i
  have e1 : a + 256 * Z = 2 ^ 8 * Z + a := Nat.add_comm _ _
  have e2 : m + 256 * M = 2 ^ 8 * M + m := Nat.add_comm _ _
  have e3 : (a &&& m) + 256 * (Z &&& M) = 2 ^ 8 * (Z &&& M) + (a &&& m) := Nat.add_comm _ _
  rw [Nat.testBit_and, e1, e2, e3, Nat.testBit_two_pow_mul_add _ ha, Nat.testBit_two_pow_mul_add _ hm, Nat.testBit_two_pow_mul_add _ h1]
  by_cases h : i < 8
  · rw [if_pos h, if_pos h, if_pos h, Nat.testBit_and]
  · rw [if_neg h, if_neg h, if_neg h, Nat.testBit_and]
def by8 (l : List Nat) : Prop := ∀ b ∈ l, b < 256
theorem by8_t {b : Nat} {l : List Nat} (h : by8 (b :: l)) : b < 256 ∧ by8 l := ⟨h b (List.mem_cons_self ..), fun c hc => h c (List.mem_cons_of_mem _ hc)⟩
theorem vl_and {m : Nat} (hm : m < 256) : ∀ l, by8 l → vl l &&& vl (l.map fun _ => m) = vl (l.map (fun b => b &&& m)) := by
  intro l
  induction l with
  | nil => intro _; exact Nat.zero_and 0
  | cons b l ih =>
    intro h
    have h2 := by8_t h
    show (b + 256 * vl l) &&& (m + 256 * vl (l.map fun _ => m)) = (b &&& m) + 256 * vl (l.map (fun b => b &&& m))
    rw [and_lane h2.1 hm, ih h2.2]
theorem lane2 : ((List.range 256).all fun b => (List.range 2).all fun z => Nat.beq ((b / 2 + 128 * z) &&& 85) ((b / 2) &&& 85)) = true := by decide +kernel
theorem lane4 : ((List.range 256).all fun b => (List.range 4).all fun z => Nat.beq ((b / 4 + 64 * z) &&& 51) ((b / 4) &&& 51)) = true := by decide +kernel
theorem vl_sh2 : ∀ l, by8 l → (vl l / 2) &&& vl (l.map fun _ => 85) = vl (l.map (fun b => (b / 2) &&& 85)) := by
  intro l
  induction l with
  | nil => intro _; rfl
  | cons b l ih =>
    intro h
    have h2 := by8_t h
    have hz : vl l % 2 < 2 := Nat.mod_lt _ (by decide)
    have key := Nat.eq_of_beq_eq_true (rg_all (rg_all lane2 b h2.1) (vl l % 2) hz)
    show ((b + 256 * vl l) / 2) &&& (85 + 256 * vl (l.map fun _ => 85)) = ((b / 2) &&& 85) + 256 * vl (l.map (fun b => (b / 2) &&& 85))
    rw [show (b + 256 * vl l) / 2 = (b / 2 + 128 * (vl l % 2)) + 256 * (vl l / 2) by omega, and_lane (by omega) (by decide), ih h2.2, key]
theorem vl_sh4 : ∀ l, by8 l → (vl l / 4) &&& vl (l.map fun _ => 51) = vl (l.map (fun b => (b / 4) &&& 51)) := by
  intro l
  induction l with
  | nil => intro _; rfl
  | cons b l ih =>
    intro h
    have h2 := by8_t h
    have hz : vl l % 4 < 4 := Nat.mod_lt _ (by decide)
    have key := Nat.eq_of_beq_eq_true (rg_all (rg_all lane4 b h2.1) (vl l % 4) hz)
    show ((b + 256 * vl l) / 4) &&& (51 + 256 * vl (l.map fun _ => 51)) = ((b / 4) &&& 51) + 256 * vl (l.map (fun b => (b / 4) &&& 51))
    rw [show (b + 256 * vl l) / 4 = (b / 4 + 64 * (vl l % 4)) + 256 * (vl l / 4) by omega, and_lane (by omega) (by decide), ih h2.2, key]
def pc1 (b : Nat) : Nat := b - ((b / 2) &&& 85)
def pc2 (a : Nat) : Nat := (a &&& 51) + ((a / 4) &&& 51)
def pc8 (b : Nat) : Nat := (if b.testBit 0 then 1 else 0) + (if b.testBit 1 then 1 else 0) + (if b.testBit 2 then 1 else 0) + (if b.testBit 3 then 1 else 0) + (if b.testBit 4 then 1 else 0) + (if b.testBit 5 then 1 else 0) + (if b.testBit 6 then 1 else 0) + (if b.testBit 7 then 1 else 0)
def pcC (b : Nat) : Bool := Nat.ble ((b / 2) &&& 85) b && (Nat.blt (pc1 b) 256 && (Nat.ble (pc2 (pc1 b) % 16) 4 && (Nat.ble (pc2 (pc1 b) / 16) 4 && (Nat.beq ((pc2 (pc1 b) + pc2 (pc1 b) / 16) % 16) (pc8 b) && Nat.ble (pc8 b) 8))))
theorem pc_ck : (List.range 256).all pcC = true := by decide +kernel
theorem pc_b {b : Nat} (h : b < 256) : (b / 2) &&& 85 ≤ b ∧ pc1 b < 256 ∧ pc2 (pc1 b) % 16 ≤ 4 ∧ pc2 (pc1 b) / 16 ≤ 4 ∧ (pc2 (pc1 b) + pc2 (pc1 b) / 16) % 16 = pc8 b ∧ pc8 b ≤ 8 := by
  have k := rg_all pc_ck b h
  unfold pcC at k
  simp only [Bool.and_eq_true] at k
  obtain ⟨k1, k2, k3, k4, k5, k6⟩ := k
  exact ⟨Nat.le_of_ble_eq_true k1, Nat.le_of_ble_eq_true k2, Nat.le_of_ble_eq_true k3, Nat.le_of_ble_eq_true k4, Nat.eq_of_beq_eq_true k5, Nat.le_of_ble_eq_true k6⟩
theorem vl_sub : ∀ l, by8 l → vl l - vl (l.map (fun b => (b / 2) &&& 85)) = vl (l.map pc1) ∧ vl (l.map (fun b => (b / 2) &&& 85)) ≤ vl l := by
  intro l
  induction l with
  | nil => intro _; exact ⟨rfl, Nat.le_refl 0⟩
  | cons b l ih =>
    intro h
    have h2 := by8_t h
    have k := ih h2.2
    have p := (pc_b h2.1).1
    show (b + 256 * vl l) - (((b / 2) &&& 85) + 256 * vl (l.map (fun b => (b / 2) &&& 85))) = pc1 b + 256 * vl (l.map pc1) ∧ ((b / 2) &&& 85) + 256 * vl (l.map (fun b => (b / 2) &&& 85)) ≤ b + 256 * vl l
    have hp : pc1 b = b - ((b / 2) &&& 85) := rfl
    omega
theorem vl_add2 : ∀ l : List Nat, vl (l.map (fun b => b &&& 51)) + vl (l.map (fun b => (b / 4) &&& 51)) = vl (l.map pc2) := by
  intro l
  induction l with
  | nil => rfl
  | cons b l ih =>
    show ((b &&& 51) + 256 * vl (l.map (fun b => b &&& 51))) + (((b / 4) &&& 51) + 256 * vl (l.map (fun b => (b / 4) &&& 51))) = pc2 b + 256 * vl (l.map pc2)
    have hp : pc2 b = (b &&& 51) + ((b / 4) &&& 51) := rfl
    omega
/-- lanes that hold two nibbles of at most 4 -/
def nb4 (l : List Nat) : Prop := ∀ b ∈ l, b % 16 ≤ 4 ∧ b / 16 ≤ 4
theorem vl_16 : ∀ l, nb4 l → vl l % 16 ≤ 4 := by
  intro l h
  match l, h with
  | [], _ => decide
  | b :: l, h =>
    have := (h b (List.mem_cons_self ..)).1
    show (b + 256 * vl l) % 16 ≤ 4
    omega
theorem and15 {a z : Nat} : (a + 16 * z) &&& 15 = a % 16 := by
  rw [show (15 : Nat) = 2 ^ 4 - 1 from rfl, Nat.and_two_pow_sub_one_eq_mod]
  omega
theorem vl_4 : ∀ l, nb4 l → (vl l + vl l / 16) &&& vl (l.map fun _ => 15) = vl (l.map (fun b => (b + b / 16) % 16)) := by
  intro l
  induction l with
  | nil => intro _; rfl
  | cons b l ih =>
    intro h
    have hb := h b (List.mem_cons_self ..)
    have hl : nb4 l := fun c hc => h c (List.mem_cons_of_mem _ hc)
    have h16 := vl_16 l hl
    show ((b + 256 * vl l) + (b + 256 * vl l) / 16) &&& (15 + 256 * vl (l.map fun _ => 15)) = ((b + b / 16) % 16) + 256 * vl (l.map (fun b => (b + b / 16) % 16))
    rw [show (b + 256 * vl l) + (b + 256 * vl l) / 16 = (b + b / 16 + 16 * (vl l % 16)) + 256 * (vl l + vl l / 16) by omega, and_lane (by omega) (by decide), ih hl, and15]
def tn (x : Int64) : Nat := x.toBitVec.toNat
theorem tn_lt (x : Int64) : tn x < 18446744073709551616 := x.toBitVec.isLt
theorem tn_and (x y : Int64) : tn (x &&& y) = tn x &&& tn y := BitVec.toNat_and _ _
theorem tn_add {x y : Int64} (h : tn x + tn y < 18446744073709551616) : tn (x + y) = tn x + tn y := by
  show (x.toBitVec + y.toBitVec).toNat = _
  rw [BitVec.toNat_add]
  exact Nat.mod_eq_of_lt h
theorem tn_sub {x y : Int64} (h : tn y ≤ tn x) : tn (x - y) = tn x - tn y := by
  have h1 := tn_lt x
  have h2 := tn_lt y
  show (x.toBitVec - y.toBitVec).toNat = _
  rw [BitVec.toNat_sub]
  show (2 ^ 64 - tn y + tn x) % 2 ^ 64 = tn x - tn y
  rw [show 2 ^ 64 - tn y + tn x = (tn x - tn y) + 2 ^ 64 by omega, Nat.add_mod_right, Nat.mod_eq_of_lt (by omega)]
theorem tn_ushr {k : Nat} (hk : k < 64) (x : Int64) : tn ((x.toUInt64 >>> ((Int32.ofNat k).toInt64.toUInt64 &&& Int64.toUInt64 63)).toInt64) = tn x / 2 ^ k := by
  show (x.toBitVec >>> (((Int32.ofNat k).toInt64.toUInt64 &&& Int64.toUInt64 63).toBitVec % 64)).toNat = _
  rw [ush_eq k hk, BitVec.ushiftRight_eq', BitVec.toNat_ofNat, Nat.mod_eq_of_lt (by omega), BitVec.toNat_ushiftRight, Nat.shiftRight_eq_div_pow]
  rfl
def byts (X : Nat) : List Nat := [X % 256, X / 256 % 256, X / 65536 % 256, X / 16777216 % 256, X / 4294967296 % 256, X / 1099511627776 % 256, X / 281474976710656 % 256, X / 72057594037927936 % 256]
theorem vl_byts {X : Nat} (h : X < 18446744073709551616) : X = vl (byts X) := by
  unfold byts vl vl vl vl vl vl vl vl vl
  omega
theorem by8_byts (X : Nat) : by8 (byts X) := fun b hb => by
  unfold byts at hb
  simp only [List.mem_cons, List.not_mem_nil, or_false] at hb
  omega
def swar (x : Int64) : Int64 :=
  let x1 := x - ((x.toUInt64 >>> ((Int32.ofNat 1).toInt64.toUInt64 &&& Int64.toUInt64 63)).toInt64 &&& Int64.ofNat 6148914691236517205)
  let x2 := (x1 &&& Int64.ofNat 3689348814741910323) + ((x1.toUInt64 >>> ((Int32.ofNat 2).toInt64.toUInt64 &&& Int64.toUInt64 63)).toInt64 &&& Int64.ofNat 3689348814741910323)
  let x3 := (x2 + (x2.toUInt64 >>> ((Int32.ofNat 4).toInt64.toUInt64 &&& Int64.toUInt64 63)).toInt64) &&& Int64.ofNat 1085102592571150095
  let x4 := x3 + (x3.toUInt64 >>> ((Int32.ofNat 8).toInt64.toUInt64 &&& Int64.toUInt64 63)).toInt64
  let x5 := x4 + (x4.toUInt64 >>> ((Int32.ofNat 16).toInt64.toUInt64 &&& Int64.toUInt64 63)).toInt64
  x5 + (x5.toUInt64 >>> ((Int32.ofNat 32).toInt64.toUInt64 &&& Int64.toUInt64 63)).toInt64
theorem vl8_lt {a b c d e f g h : Nat} (q : by8 [a, b, c, d, e, f, g, h]) : vl [a, b, c, d, e, f, g, h] < 18446744073709551616 := by
  have k : ∀ x ∈ [a, b, c, d, e, f, g, h], x < 256 := q
  simp only [List.mem_cons, List.not_mem_nil, or_false, forall_eq_or_imp, forall_eq] at k
  unfold vl vl vl vl vl vl vl vl vl
  omega
theorem swar_ok (x : Int64) : tn (swar x) % 128 = ((byts (tn x)).map pc8).sum := by
  have hX := tn_lt x
  have hv := vl_byts hX
  have hb := by8_byts (tn x)
  obtain ⟨b0, b1, b2, b3, b4, b5, b6, b7, hl⟩ : ∃ b0 b1 b2 b3 b4 b5 b6 b7, byts (tn x) = [b0, b1, b2, b3, b4, b5, b6, b7] := ⟨_, _, _, _, _, _, _, _, rfl⟩
  rw [hl] at hv hb ⊢
  have kb : ∀ y ∈ [b0, b1, b2, b3, b4, b5, b6, b7], y < 256 := hb
  have m55 : tn (Int64.ofNat 6148914691236517205) = vl ([b0, b1, b2, b3, b4, b5, b6, b7].map fun _ => 85) := by show _ = vl [85, 85, 85, 85, 85, 85, 85, 85]; decide
  have m33 : ∀ l : List Nat, l.length = 8 → tn (Int64.ofNat 3689348814741910323) = vl (l.map fun _ => 51) := fun l h => by rw [List.map_const', h]; decide
  have m0f : ∀ l : List Nat, l.length = 8 → tn (Int64.ofNat 1085102592571150095) = vl (l.map fun _ => 15) := fun l h => by rw [List.map_const', h]; decide
  unfold swar
  dsimp only
  -- first
  have y1 : tn ((x.toUInt64 >>> ((Int32.ofNat 1).toInt64.toUInt64 &&& Int64.toUInt64 63)).toInt64 &&& Int64.ofNat 6148914691236517205) = vl ([b0, b1, b2, b3, b4, b5, b6, b7].map (fun b => (b / 2) &&& 85)) := by
    rw [tn_and, tn_ushr (by decide), m55, hv]
    exact vl_sh2 _ hb
  have s1 := vl_sub _ hb
  have x1 : tn (x - ((x.toUInt64 >>> ((Int32.ofNat 1).toInt64.toUInt64 &&& Int64.toUInt64 63)).toInt64 &&& Int64.ofNat 6148914691236517205)) = vl ([b0, b1, b2, b3, b4, b5, b6, b7].map pc1) := by
    rw [tn_sub (by rw [y1, hv]; exact s1.2), y1, hv]
    exact s1.1
  generalize x - ((x.toUInt64 >>> ((Int32.ofNat 1).toInt64.toUInt64 &&& Int64.toUInt64 63)).toInt64 &&& Int64.ofNat 6148914691236517205) = z1 at x1 ⊢
  have hb1 : by8 ([b0, b1, b2, b3, b4, b5, b6, b7].map pc1) := fun c hc => by
    obtain ⟨b, hb', rfl⟩ := List.mem_map.mp hc
    exact (pc_b (kb b hb')).2.1
  -- second
  have l1 : ([b0, b1, b2, b3, b4, b5, b6, b7].map pc1).length = 8 := rfl
  have y2 : tn (z1 &&& Int64.ofNat 3689348814741910323) = vl (([b0, b1, b2, b3, b4, b5, b6, b7].map pc1).map (fun b => b &&& 51)) := by
    rw [tn_and, m33 _ l1, x1]
    exact vl_and (by decide) _ hb1
  have y3 : tn ((z1.toUInt64 >>> ((Int32.ofNat 2).toInt64.toUInt64 &&& Int64.toUInt64 63)).toInt64 &&& Int64.ofNat 3689348814741910323) = vl (([b0, b1, b2, b3, b4, b5, b6, b7].map pc1).map (fun b => (b / 4) &&& 51)) := by
    rw [tn_and, tn_ushr (by decide), m33 _ l1, x1]
    exact vl_sh4 _ hb1
  have n2 : nb4 (([b0, b1, b2, b3, b4, b5, b6, b7].map pc1).map pc2) := fun c hc => by
    obtain ⟨a, ha, rfl⟩ := List.mem_map.mp hc
    obtain ⟨b, hb', rfl⟩ := List.mem_map.mp ha
    have := pc_b (kb b hb')
    exact ⟨this.2.2.1, this.2.2.2.1⟩
  have s2 := vl_add2 ([b0, b1, b2, b3, b4, b5, b6, b7].map pc1)
  have q0 := n2 (pc2 (pc1 b0)) (by simp)
  have q1 := n2 (pc2 (pc1 b1)) (by simp)
  have q2 := n2 (pc2 (pc1 b2)) (by simp)
  have q3 := n2 (pc2 (pc1 b3)) (by simp)
  have q4 := n2 (pc2 (pc1 b4)) (by simp)
  have q5 := n2 (pc2 (pc1 b5)) (by simp)
  have q6 := n2 (pc2 (pc1 b6)) (by simp)
  have q7 := n2 (pc2 (pc1 b7)) (by simp)
  have e0 := (pc_b (kb b0 (by simp))).2.2.2.2
  have e1 := (pc_b (kb b1 (by simp))).2.2.2.2
  have e2 := (pc_b (kb b2 (by simp))).2.2.2.2
  have e3 := (pc_b (kb b3 (by simp))).2.2.2.2
  have e4 := (pc_b (kb b4 (by simp))).2.2.2.2
  have e5 := (pc_b (kb b5 (by simp))).2.2.2.2
  have e6 := (pc_b (kb b6 (by simp))).2.2.2.2
  have e7 := (pc_b (kb b7 (by simp))).2.2.2.2
  have v2 : vl (([b0, b1, b2, b3, b4, b5, b6, b7].map pc1).map pc2) = vl [pc2 (pc1 b0), pc2 (pc1 b1), pc2 (pc1 b2), pc2 (pc1 b3), pc2 (pc1 b4), pc2 (pc1 b5), pc2 (pc1 b6), pc2 (pc1 b7)] := rfl
  have vw : ∀ a b c d e f g h : Nat, vl [a, b, c, d, e, f, g, h] = a + 256 * (b + 256 * (c + 256 * (d + 256 * (e + 256 * (f + 256 * (g + 256 * (h + 256 * 0))))))) := fun _ _ _ _ _ _ _ _ => rfl
  have x2 : tn ((z1 &&& Int64.ofNat 3689348814741910323) + ((z1.toUInt64 >>> ((Int32.ofNat 2).toInt64.toUInt64 &&& Int64.toUInt64 63)).toInt64 &&& Int64.ofNat 3689348814741910323)) = vl (([b0, b1, b2, b3, b4, b5, b6, b7].map pc1).map pc2) := by
    rw [tn_add (by rw [y2, y3, s2, v2, vw]; omega), y2, y3, s2]
  generalize (z1 &&& Int64.ofNat 3689348814741910323) + ((z1.toUInt64 >>> ((Int32.ofNat 2).toInt64.toUInt64 &&& Int64.toUInt64 63)).toInt64 &&& Int64.ofNat 3689348814741910323) = z2 at x2 ⊢
  -- third
  have y4 : tn ((z2.toUInt64 >>> ((Int32.ofNat 4).toInt64.toUInt64 &&& Int64.toUInt64 63)).toInt64) = tn z2 / 16 := tn_ushr (by decide) _
  have x3 : tn ((z2 + (z2.toUInt64 >>> ((Int32.ofNat 4).toInt64.toUInt64 &&& Int64.toUInt64 63)).toInt64) &&& Int64.ofNat 1085102592571150095) = vl [pc8 b0, pc8 b1, pc8 b2, pc8 b3, pc8 b4, pc8 b5, pc8 b6, pc8 b7] := by
    rw [tn_and, tn_add (by rw [y4, x2, v2, vw]; omega), y4, m0f (([b0, b1, b2, b3, b4, b5, b6, b7].map pc1).map pc2) rfl, x2, vl_4 _ n2]
    show vl [(pc2 (pc1 b0) + pc2 (pc1 b0) / 16) % 16, (pc2 (pc1 b1) + pc2 (pc1 b1) / 16) % 16, (pc2 (pc1 b2) + pc2 (pc1 b2) / 16) % 16, (pc2 (pc1 b3) + pc2 (pc1 b3) / 16) % 16, (pc2 (pc1 b4) + pc2 (pc1 b4) / 16) % 16, (pc2 (pc1 b5) + pc2 (pc1 b5) / 16) % 16, (pc2 (pc1 b6) + pc2 (pc1 b6) / 16) % 16, (pc2 (pc1 b7) + pc2 (pc1 b7) / 16) % 16] = _
    rw [e0.1, e1.1, e2.1, e3.1, e4.1, e5.1, e6.1, e7.1]
  generalize (z2 + (z2.toUInt64 >>> ((Int32.ofNat 4).toInt64.toUInt64 &&& Int64.toUInt64 63)).toInt64) &&& Int64.ofNat 1085102592571150095 = z3 at x3 ⊢
  show _ = (pc8 b0 + (pc8 b1 + (pc8 b2 + (pc8 b3 + (pc8 b4 + (pc8 b5 + (pc8 b6 + (pc8 b7 + 0))))))))
  have f0 := e0.2
  have f1 := e1.2
  have f2 := e2.2
  have f3 := e3.2
  have f4 := e4.2
  have f5 := e5.2
  have f6 := e6.2
  have f7 := e7.2
  rw [vw] at x3
  clear e0 e1 e2 e3 e4 e5 e6 e7 q0 q1 q2 q3 q4 q5 q6 q7 s2 n2 v2 x2 y4 hb1 m55 m33 m0f hv hb kb hl x1 y1 y2 y3 s1 l1
  generalize pc8 b0 = c0 at *
  generalize pc8 b1 = c1 at *
  generalize pc8 b2 = c2 at *
  generalize pc8 b3 = c3 at *
  generalize pc8 b4 = c4 at *
  generalize pc8 b5 = c5 at *
  generalize pc8 b6 = c6 at *
  generalize pc8 b7 = c7 at *
  -- the sums
  have y5 : tn ((z3.toUInt64 >>> ((Int32.ofNat 8).toInt64.toUInt64 &&& Int64.toUInt64 63)).toInt64) = tn z3 / 256 := tn_ushr (by decide) _
  have x4 : tn (z3 + (z3.toUInt64 >>> ((Int32.ofNat 8).toInt64.toUInt64 &&& Int64.toUInt64 63)).toInt64) = (c0 + c1) + 256 * ((c1 + c2) + 256 * ((c2 + c3) + 256 * ((c3 + c4) + 256 * ((c4 + c5) + 256 * ((c5 + c6) + 256 * ((c6 + c7) + 256 * c7)))))) := by
    rw [tn_add (by rw [y5, x3]; omega), y5, x3]; omega
  generalize z3 + (z3.toUInt64 >>> ((Int32.ofNat 8).toInt64.toUInt64 &&& Int64.toUInt64 63)).toInt64 = z4 at x4 ⊢
  have y6 : tn ((z4.toUInt64 >>> ((Int32.ofNat 16).toInt64.toUInt64 &&& Int64.toUInt64 63)).toInt64) = tn z4 / 65536 := tn_ushr (by decide) _
  have x5 : tn (z4 + (z4.toUInt64 >>> ((Int32.ofNat 16).toInt64.toUInt64 &&& Int64.toUInt64 63)).toInt64) = (c0 + c1 + c2 + c3) + 256 * ((c1 + c2 + c3 + c4) + 256 * ((c2 + c3 + c4 + c5) + 256 * ((c3 + c4 + c5 + c6) + 256 * ((c4 + c5 + c6 + c7) + 256 * ((c5 + c6 + c7) + 256 * ((c6 + c7) + 256 * c7)))))) := by
    rw [tn_add (by rw [y6, x4]; omega), y6, x4]; omega
  generalize z4 + (z4.toUInt64 >>> ((Int32.ofNat 16).toInt64.toUInt64 &&& Int64.toUInt64 63)).toInt64 = z5 at x5 ⊢
  have y7 : tn ((z5.toUInt64 >>> ((Int32.ofNat 32).toInt64.toUInt64 &&& Int64.toUInt64 63)).toInt64) = tn z5 / 4294967296 := tn_ushr (by decide) _
  have hA : (c0 + c1 + c2 + c3) + 256 * ((c1 + c2 + c3 + c4) + 256 * ((c2 + c3 + c4 + c5) + 256 * (c3 + c4 + c5 + c6))) < 4294967296 := by omega
  have hB : (c4 + c5 + c6 + c7) + 256 * ((c5 + c6 + c7) + 256 * ((c6 + c7) + 256 * c7)) < 4294967296 := by omega
  have x6 : tn z5 = ((c0 + c1 + c2 + c3) + 256 * ((c1 + c2 + c3 + c4) + 256 * ((c2 + c3 + c4 + c5) + 256 * (c3 + c4 + c5 + c6)))) + 4294967296 * ((c4 + c5 + c6 + c7) + 256 * ((c5 + c6 + c7) + 256 * ((c6 + c7) + 256 * c7))) := by rw [x5]; omega
  have e6 : ∀ A B : Nat, A < 4294967296 → (A + 4294967296 * B) / 4294967296 = B := fun A B h => by omega
  have y8 : tn z5 / 4294967296 = (c4 + c5 + c6 + c7) + 256 * ((c5 + c6 + c7) + 256 * ((c6 + c7) + 256 * c7)) := by rw [x6, e6 _ _ hA]
  have lt6 : tn z5 + ((c4 + c5 + c6 + c7) + 256 * ((c5 + c6 + c7) + 256 * ((c6 + c7) + 256 * c7))) < 18446744073709551616 := by rw [x5]; omega
  rw [tn_add (by rw [y7, y8]; exact lt6), y7, y8, x6]
  clear x5 x6 x4 x3 y5 y6 y7 y8 hA hB e6 lt6
  omega
theorem cnt_bytes (x : Int64) : ((byts (tn x)).map pc8).sum = cnt x := by
  have hb : ∀ (j t : Nat), t < 8 → (tn x / 2 ^ (8 * j) % 256).testBit t = bt x (8 * j + t) := fun j t ht => by
    rw [show (256 : Nat) = 2 ^ 8 from rfl, Nat.testBit_mod_two_pow, decide_eq_true ht, Bool.true_and, Nat.testBit_div_two_pow, Nat.add_comm]
    rfl
  have h0 : ∀ j, pc8 (tn x / 2 ^ (8 * j) % 256) = (if bt x (8 * j + 0) = true then 1 else 0) + (if bt x (8 * j + 1) = true then 1 else 0) + (if bt x (8 * j + 2) = true then 1 else 0) + (if bt x (8 * j + 3) = true then 1 else 0) + (if bt x (8 * j + 4) = true then 1 else 0) + (if bt x (8 * j + 5) = true then 1 else 0) + (if bt x (8 * j + 6) = true then 1 else 0) + (if bt x (8 * j + 7) = true then 1 else 0) := fun j => by
    unfold pc8
    rw [hb j 0 (by decide), hb j 1 (by decide), hb j 2 (by decide), hb j 3 (by decide), hb j 4 (by decide), hb j 5 (by decide), hb j 6 (by decide), hb j 7 (by decide)]
  have e : byts (tn x) = [tn x / 2 ^ (8 * 0) % 256, tn x / 2 ^ (8 * 1) % 256, tn x / 2 ^ (8 * 2) % 256, tn x / 2 ^ (8 * 3) % 256, tn x / 2 ^ (8 * 4) % 256, tn x / 2 ^ (8 * 5) % 256, tn x / 2 ^ (8 * 6) % 256, tn x / 2 ^ (8 * 7) % 256] := by
    unfold byts
    rw [Nat.mul_zero, Nat.pow_zero, Nat.div_one]
  rw [e]
  show pc8 _ + (pc8 _ + (pc8 _ + (pc8 _ + (pc8 _ + (pc8 _ + (pc8 _ + (pc8 _ + 0))))))) = cnt x
  rw [h0 0, h0 1, h0 2, h0 3, h0 4, h0 5, h0 6, h0 7]
  have st : ∀ k, cntB x (8 * k + 8) = cntB x (8 * k) + ((if bt x (8 * k + 0) = true then 1 else 0) + (if bt x (8 * k + 1) = true then 1 else 0) + (if bt x (8 * k + 2) = true then 1 else 0) + (if bt x (8 * k + 3) = true then 1 else 0) + (if bt x (8 * k + 4) = true then 1 else 0) + (if bt x (8 * k + 5) = true then 1 else 0) + (if bt x (8 * k + 6) = true then 1 else 0) + (if bt x (8 * k + 7) = true then 1 else 0)) := fun k => by
    show cntB x (8 * k) + _ + _ + _ + _ + _ + _ + _ + _ = _
    simp only [Nat.add_assoc, Nat.add_zero]
  have s0 : cntB x 8 = cntB x 0 + _ := st 0
  have s1 : cntB x 16 = cntB x 8 + _ := st 1
  have s2 : cntB x 24 = cntB x 16 + _ := st 2
  have s3 : cntB x 32 = cntB x 24 + _ := st 3
  have s4 : cntB x 40 = cntB x 32 + _ := st 4
  have s5 : cntB x 48 = cntB x 40 + _ := st 5
  have s6 : cntB x 56 = cntB x 48 + _ := st 6
  have s7 : cntB x 64 = cntB x 56 + _ := st 7
  have z : cntB x 0 = 0 := rfl
  show _ = cntB x 64
  omega
theorem s_bitCount {d : Nat} {h : sHp} {x : Int64} (hd : 1 ≤ d) : sDo d 257 [.long x] h (fun r h' => h' = h ∧ r = some (.int (Int32.ofNat (cnt x)))) := by
  have hc := cnt_le x
  have key : (swar x).toInt32 &&& (Int8.ofInt 127).toInt32 = Int32.ofNat (cnt x) := by
    apply Int32.toBitVec_inj.mp
    apply BitVec.eq_of_toNat_eq
    show ((swar x).toBitVec.signExtend 32 &&& 127#32).toNat = (BitVec.ofNat 32 (cnt x)).toNat
    rw [BitVec.signExtend_eq_setWidth_of_le _ (by decide), BitVec.toNat_and, BitVec.toNat_setWidth, BitVec.toNat_ofNat, BitVec.toNat_ofNat, show 127 % 2 ^ 32 = 2 ^ 7 - 1 from rfl, Nat.and_two_pow_sub_one_eq_mod, Nat.mod_eq_of_lt (show cnt x < 2 ^ 32 by omega), ← cnt_bytes, ← swar_ok]
    show tn (swar x) % 2 ^ 32 % 2 ^ 7 = tn (swar x) % 128
    omega
  refine sDo_of1 (nL := 2) (L := [some (.long x), none]) hd rfl rfl ?_
  refine g_lload_n (i := 0) rfl rfl ?_
  refine g_lload_n (i := 0) rfl rfl ?_
  refine g_iconst (n := 1) rfl ?_
  refine g_lushr rfl ?_
  refine g_ldc2_w (j := 6148914691236517205) rfl ?_
  refine g_land rfl ?_
  refine g_lsub rfl ?_
  refine g_lstore_n (i := 0) (L1 := [some (.long (x - (((x.toUInt64 >>> ((Int32.ofInt 1).toInt64.toUInt64 &&& Int64.toUInt64 63)).toInt64) &&& (Int64.ofNat 6148914691236517205)))), none]) rfl (Nat.le_of_ble_eq_true rfl) rfl ?_
  refine g_lload_n (i := 0) rfl rfl ?_
  refine g_ldc2_w (j := 3689348814741910323) rfl ?_
  refine g_land rfl ?_
  refine g_lload_n (i := 0) rfl rfl ?_
  refine g_iconst (n := 2) rfl ?_
  refine g_lushr rfl ?_
  refine g_ldc2_w (j := 3689348814741910323) rfl ?_
  refine g_land rfl ?_
  refine g_ladd rfl ?_
  refine g_lstore_n (i := 0) (L1 := [some (.long (((x - (((x.toUInt64 >>> ((Int32.ofInt 1).toInt64.toUInt64 &&& Int64.toUInt64 63)).toInt64) &&& (Int64.ofNat 6148914691236517205))) &&& (Int64.ofNat 3689348814741910323)) + ((((x - (((x.toUInt64 >>> ((Int32.ofInt 1).toInt64.toUInt64 &&& Int64.toUInt64 63)).toInt64) &&& (Int64.ofNat 6148914691236517205))).toUInt64 >>> ((Int32.ofInt 2).toInt64.toUInt64 &&& Int64.toUInt64 63)).toInt64) &&& (Int64.ofNat 3689348814741910323)))), none]) rfl (Nat.le_of_ble_eq_true rfl) rfl ?_
  refine g_lload_n (i := 0) rfl rfl ?_
  refine g_lload_n (i := 0) rfl rfl ?_
  refine g_iconst (n := 4) rfl ?_
  refine g_lushr rfl ?_
  refine g_ladd rfl ?_
  refine g_ldc2_w (j := 1085102592571150095) rfl ?_
  refine g_land rfl ?_
  refine g_lstore_n (i := 0) (L1 := [some (.long (((((x - (((x.toUInt64 >>> ((Int32.ofInt 1).toInt64.toUInt64 &&& Int64.toUInt64 63)).toInt64) &&& (Int64.ofNat 6148914691236517205))) &&& (Int64.ofNat 3689348814741910323)) + ((((x - (((x.toUInt64 >>> ((Int32.ofInt 1).toInt64.toUInt64 &&& Int64.toUInt64 63)).toInt64) &&& (Int64.ofNat 6148914691236517205))).toUInt64 >>> ((Int32.ofInt 2).toInt64.toUInt64 &&& Int64.toUInt64 63)).toInt64) &&& (Int64.ofNat 3689348814741910323))) + (((((x - (((x.toUInt64 >>> ((Int32.ofInt 1).toInt64.toUInt64 &&& Int64.toUInt64 63)).toInt64) &&& (Int64.ofNat 6148914691236517205))) &&& (Int64.ofNat 3689348814741910323)) + ((((x - (((x.toUInt64 >>> ((Int32.ofInt 1).toInt64.toUInt64 &&& Int64.toUInt64 63)).toInt64) &&& (Int64.ofNat 6148914691236517205))).toUInt64 >>> ((Int32.ofInt 2).toInt64.toUInt64 &&& Int64.toUInt64 63)).toInt64) &&& (Int64.ofNat 3689348814741910323))).toUInt64 >>> ((Int32.ofInt 4).toInt64.toUInt64 &&& Int64.toUInt64 63)).toInt64)) &&& (Int64.ofNat 1085102592571150095))), none]) rfl (Nat.le_of_ble_eq_true rfl) rfl ?_
  refine g_lload_n (i := 0) rfl rfl ?_
  refine g_lload_n (i := 0) rfl rfl ?_
  refine g_bipush (n := 8) rfl ?_
  refine g_lushr rfl ?_
  refine g_ladd rfl ?_
  refine g_lstore_n (i := 0) (L1 := [some (.long ((((((x - (((x.toUInt64 >>> ((Int32.ofInt 1).toInt64.toUInt64 &&& Int64.toUInt64 63)).toInt64) &&& (Int64.ofNat 6148914691236517205))) &&& (Int64.ofNat 3689348814741910323)) + ((((x - (((x.toUInt64 >>> ((Int32.ofInt 1).toInt64.toUInt64 &&& Int64.toUInt64 63)).toInt64) &&& (Int64.ofNat 6148914691236517205))).toUInt64 >>> ((Int32.ofInt 2).toInt64.toUInt64 &&& Int64.toUInt64 63)).toInt64) &&& (Int64.ofNat 3689348814741910323))) + (((((x - (((x.toUInt64 >>> ((Int32.ofInt 1).toInt64.toUInt64 &&& Int64.toUInt64 63)).toInt64) &&& (Int64.ofNat 6148914691236517205))) &&& (Int64.ofNat 3689348814741910323)) + ((((x - (((x.toUInt64 >>> ((Int32.ofInt 1).toInt64.toUInt64 &&& Int64.toUInt64 63)).toInt64) &&& (Int64.ofNat 6148914691236517205))).toUInt64 >>> ((Int32.ofInt 2).toInt64.toUInt64 &&& Int64.toUInt64 63)).toInt64) &&& (Int64.ofNat 3689348814741910323))).toUInt64 >>> ((Int32.ofInt 4).toInt64.toUInt64 &&& Int64.toUInt64 63)).toInt64)) &&& (Int64.ofNat 1085102592571150095)) + (((((((x - (((x.toUInt64 >>> ((Int32.ofInt 1).toInt64.toUInt64 &&& Int64.toUInt64 63)).toInt64) &&& (Int64.ofNat 6148914691236517205))) &&& (Int64.ofNat 3689348814741910323)) + ((((x - (((x.toUInt64 >>> ((Int32.ofInt 1).toInt64.toUInt64 &&& Int64.toUInt64 63)).toInt64) &&& (Int64.ofNat 6148914691236517205))).toUInt64 >>> ((Int32.ofInt 2).toInt64.toUInt64 &&& Int64.toUInt64 63)).toInt64) &&& (Int64.ofNat 3689348814741910323))) + (((((x - (((x.toUInt64 >>> ((Int32.ofInt 1).toInt64.toUInt64 &&& Int64.toUInt64 63)).toInt64) &&& (Int64.ofNat 6148914691236517205))) &&& (Int64.ofNat 3689348814741910323)) + ((((x - (((x.toUInt64 >>> ((Int32.ofInt 1).toInt64.toUInt64 &&& Int64.toUInt64 63)).toInt64) &&& (Int64.ofNat 6148914691236517205))).toUInt64 >>> ((Int32.ofInt 2).toInt64.toUInt64 &&& Int64.toUInt64 63)).toInt64) &&& (Int64.ofNat 3689348814741910323))).toUInt64 >>> ((Int32.ofInt 4).toInt64.toUInt64 &&& Int64.toUInt64 63)).toInt64)) &&& (Int64.ofNat 1085102592571150095)).toUInt64 >>> ((Int8.ofInt 8).toInt32.toInt64.toUInt64 &&& Int64.toUInt64 63)).toInt64))), none]) rfl (Nat.le_of_ble_eq_true rfl) rfl ?_
  refine g_lload_n (i := 0) rfl rfl ?_
  refine g_lload_n (i := 0) rfl rfl ?_
  refine g_bipush (n := 16) rfl ?_
  refine g_lushr rfl ?_
  refine g_ladd rfl ?_
  refine g_lstore_n (i := 0) (L1 := [some (.long (((((((x - (((x.toUInt64 >>> ((Int32.ofInt 1).toInt64.toUInt64 &&& Int64.toUInt64 63)).toInt64) &&& (Int64.ofNat 6148914691236517205))) &&& (Int64.ofNat 3689348814741910323)) + ((((x - (((x.toUInt64 >>> ((Int32.ofInt 1).toInt64.toUInt64 &&& Int64.toUInt64 63)).toInt64) &&& (Int64.ofNat 6148914691236517205))).toUInt64 >>> ((Int32.ofInt 2).toInt64.toUInt64 &&& Int64.toUInt64 63)).toInt64) &&& (Int64.ofNat 3689348814741910323))) + (((((x - (((x.toUInt64 >>> ((Int32.ofInt 1).toInt64.toUInt64 &&& Int64.toUInt64 63)).toInt64) &&& (Int64.ofNat 6148914691236517205))) &&& (Int64.ofNat 3689348814741910323)) + ((((x - (((x.toUInt64 >>> ((Int32.ofInt 1).toInt64.toUInt64 &&& Int64.toUInt64 63)).toInt64) &&& (Int64.ofNat 6148914691236517205))).toUInt64 >>> ((Int32.ofInt 2).toInt64.toUInt64 &&& Int64.toUInt64 63)).toInt64) &&& (Int64.ofNat 3689348814741910323))).toUInt64 >>> ((Int32.ofInt 4).toInt64.toUInt64 &&& Int64.toUInt64 63)).toInt64)) &&& (Int64.ofNat 1085102592571150095)) + (((((((x - (((x.toUInt64 >>> ((Int32.ofInt 1).toInt64.toUInt64 &&& Int64.toUInt64 63)).toInt64) &&& (Int64.ofNat 6148914691236517205))) &&& (Int64.ofNat 3689348814741910323)) + ((((x - (((x.toUInt64 >>> ((Int32.ofInt 1).toInt64.toUInt64 &&& Int64.toUInt64 63)).toInt64) &&& (Int64.ofNat 6148914691236517205))).toUInt64 >>> ((Int32.ofInt 2).toInt64.toUInt64 &&& Int64.toUInt64 63)).toInt64) &&& (Int64.ofNat 3689348814741910323))) + (((((x - (((x.toUInt64 >>> ((Int32.ofInt 1).toInt64.toUInt64 &&& Int64.toUInt64 63)).toInt64) &&& (Int64.ofNat 6148914691236517205))) &&& (Int64.ofNat 3689348814741910323)) + ((((x - (((x.toUInt64 >>> ((Int32.ofInt 1).toInt64.toUInt64 &&& Int64.toUInt64 63)).toInt64) &&& (Int64.ofNat 6148914691236517205))).toUInt64 >>> ((Int32.ofInt 2).toInt64.toUInt64 &&& Int64.toUInt64 63)).toInt64) &&& (Int64.ofNat 3689348814741910323))).toUInt64 >>> ((Int32.ofInt 4).toInt64.toUInt64 &&& Int64.toUInt64 63)).toInt64)) &&& (Int64.ofNat 1085102592571150095)).toUInt64 >>> ((Int8.ofInt 8).toInt32.toInt64.toUInt64 &&& Int64.toUInt64 63)).toInt64)) + ((((((((x - (((x.toUInt64 >>> ((Int32.ofInt 1).toInt64.toUInt64 &&& Int64.toUInt64 63)).toInt64) &&& (Int64.ofNat 6148914691236517205))) &&& (Int64.ofNat 3689348814741910323)) + ((((x - (((x.toUInt64 >>> ((Int32.ofInt 1).toInt64.toUInt64 &&& Int64.toUInt64 63)).toInt64) &&& (Int64.ofNat 6148914691236517205))).toUInt64 >>> ((Int32.ofInt 2).toInt64.toUInt64 &&& Int64.toUInt64 63)).toInt64) &&& (Int64.ofNat 3689348814741910323))) + (((((x - (((x.toUInt64 >>> ((Int32.ofInt 1).toInt64.toUInt64 &&& Int64.toUInt64 63)).toInt64) &&& (Int64.ofNat 6148914691236517205))) &&& (Int64.ofNat 3689348814741910323)) + ((((x - (((x.toUInt64 >>> ((Int32.ofInt 1).toInt64.toUInt64 &&& Int64.toUInt64 63)).toInt64) &&& (Int64.ofNat 6148914691236517205))).toUInt64 >>> ((Int32.ofInt 2).toInt64.toUInt64 &&& Int64.toUInt64 63)).toInt64) &&& (Int64.ofNat 3689348814741910323))).toUInt64 >>> ((Int32.ofInt 4).toInt64.toUInt64 &&& Int64.toUInt64 63)).toInt64)) &&& (Int64.ofNat 1085102592571150095)) + (((((((x - (((x.toUInt64 >>> ((Int32.ofInt 1).toInt64.toUInt64 &&& Int64.toUInt64 63)).toInt64) &&& (Int64.ofNat 6148914691236517205))) &&& (Int64.ofNat 3689348814741910323)) + ((((x - (((x.toUInt64 >>> ((Int32.ofInt 1).toInt64.toUInt64 &&& Int64.toUInt64 63)).toInt64) &&& (Int64.ofNat 6148914691236517205))).toUInt64 >>> ((Int32.ofInt 2).toInt64.toUInt64 &&& Int64.toUInt64 63)).toInt64) &&& (Int64.ofNat 3689348814741910323))) + (((((x - (((x.toUInt64 >>> ((Int32.ofInt 1).toInt64.toUInt64 &&& Int64.toUInt64 63)).toInt64) &&& (Int64.ofNat 6148914691236517205))) &&& (Int64.ofNat 3689348814741910323)) + ((((x - (((x.toUInt64 >>> ((Int32.ofInt 1).toInt64.toUInt64 &&& Int64.toUInt64 63)).toInt64) &&& (Int64.ofNat 6148914691236517205))).toUInt64 >>> ((Int32.ofInt 2).toInt64.toUInt64 &&& Int64.toUInt64 63)).toInt64) &&& (Int64.ofNat 3689348814741910323))).toUInt64 >>> ((Int32.ofInt 4).toInt64.toUInt64 &&& Int64.toUInt64 63)).toInt64)) &&& (Int64.ofNat 1085102592571150095)).toUInt64 >>> ((Int8.ofInt 8).toInt32.toInt64.toUInt64 &&& Int64.toUInt64 63)).toInt64)).toUInt64 >>> ((Int8.ofInt 16).toInt32.toInt64.toUInt64 &&& Int64.toUInt64 63)).toInt64))), none]) rfl (Nat.le_of_ble_eq_true rfl) rfl ?_
  refine g_lload_n (i := 0) rfl rfl ?_
  refine g_lload_n (i := 0) rfl rfl ?_
  refine g_bipush (n := 32) rfl ?_
  refine g_lushr rfl ?_
  refine g_ladd rfl ?_
  refine g_lstore_n (i := 0) (L1 := [some (.long ((((((((x - (((x.toUInt64 >>> ((Int32.ofInt 1).toInt64.toUInt64 &&& Int64.toUInt64 63)).toInt64) &&& (Int64.ofNat 6148914691236517205))) &&& (Int64.ofNat 3689348814741910323)) + ((((x - (((x.toUInt64 >>> ((Int32.ofInt 1).toInt64.toUInt64 &&& Int64.toUInt64 63)).toInt64) &&& (Int64.ofNat 6148914691236517205))).toUInt64 >>> ((Int32.ofInt 2).toInt64.toUInt64 &&& Int64.toUInt64 63)).toInt64) &&& (Int64.ofNat 3689348814741910323))) + (((((x - (((x.toUInt64 >>> ((Int32.ofInt 1).toInt64.toUInt64 &&& Int64.toUInt64 63)).toInt64) &&& (Int64.ofNat 6148914691236517205))) &&& (Int64.ofNat 3689348814741910323)) + ((((x - (((x.toUInt64 >>> ((Int32.ofInt 1).toInt64.toUInt64 &&& Int64.toUInt64 63)).toInt64) &&& (Int64.ofNat 6148914691236517205))).toUInt64 >>> ((Int32.ofInt 2).toInt64.toUInt64 &&& Int64.toUInt64 63)).toInt64) &&& (Int64.ofNat 3689348814741910323))).toUInt64 >>> ((Int32.ofInt 4).toInt64.toUInt64 &&& Int64.toUInt64 63)).toInt64)) &&& (Int64.ofNat 1085102592571150095)) + (((((((x - (((x.toUInt64 >>> ((Int32.ofInt 1).toInt64.toUInt64 &&& Int64.toUInt64 63)).toInt64) &&& (Int64.ofNat 6148914691236517205))) &&& (Int64.ofNat 3689348814741910323)) + ((((x - (((x.toUInt64 >>> ((Int32.ofInt 1).toInt64.toUInt64 &&& Int64.toUInt64 63)).toInt64) &&& (Int64.ofNat 6148914691236517205))).toUInt64 >>> ((Int32.ofInt 2).toInt64.toUInt64 &&& Int64.toUInt64 63)).toInt64) &&& (Int64.ofNat 3689348814741910323))) + (((((x - (((x.toUInt64 >>> ((Int32.ofInt 1).toInt64.toUInt64 &&& Int64.toUInt64 63)).toInt64) &&& (Int64.ofNat 6148914691236517205))) &&& (Int64.ofNat 3689348814741910323)) + ((((x - (((x.toUInt64 >>> ((Int32.ofInt 1).toInt64.toUInt64 &&& Int64.toUInt64 63)).toInt64) &&& (Int64.ofNat 6148914691236517205))).toUInt64 >>> ((Int32.ofInt 2).toInt64.toUInt64 &&& Int64.toUInt64 63)).toInt64) &&& (Int64.ofNat 3689348814741910323))).toUInt64 >>> ((Int32.ofInt 4).toInt64.toUInt64 &&& Int64.toUInt64 63)).toInt64)) &&& (Int64.ofNat 1085102592571150095)).toUInt64 >>> ((Int8.ofInt 8).toInt32.toInt64.toUInt64 &&& Int64.toUInt64 63)).toInt64)) + ((((((((x - (((x.toUInt64 >>> ((Int32.ofInt 1).toInt64.toUInt64 &&& Int64.toUInt64 63)).toInt64) &&& (Int64.ofNat 6148914691236517205))) &&& (Int64.ofNat 3689348814741910323)) + ((((x - (((x.toUInt64 >>> ((Int32.ofInt 1).toInt64.toUInt64 &&& Int64.toUInt64 63)).toInt64) &&& (Int64.ofNat 6148914691236517205))).toUInt64 >>> ((Int32.ofInt 2).toInt64.toUInt64 &&& Int64.toUInt64 63)).toInt64) &&& (Int64.ofNat 3689348814741910323))) + (((((x - (((x.toUInt64 >>> ((Int32.ofInt 1).toInt64.toUInt64 &&& Int64.toUInt64 63)).toInt64) &&& (Int64.ofNat 6148914691236517205))) &&& (Int64.ofNat 3689348814741910323)) + ((((x - (((x.toUInt64 >>> ((Int32.ofInt 1).toInt64.toUInt64 &&& Int64.toUInt64 63)).toInt64) &&& (Int64.ofNat 6148914691236517205))).toUInt64 >>> ((Int32.ofInt 2).toInt64.toUInt64 &&& Int64.toUInt64 63)).toInt64) &&& (Int64.ofNat 3689348814741910323))).toUInt64 >>> ((Int32.ofInt 4).toInt64.toUInt64 &&& Int64.toUInt64 63)).toInt64)) &&& (Int64.ofNat 1085102592571150095)) + (((((((x - (((x.toUInt64 >>> ((Int32.ofInt 1).toInt64.toUInt64 &&& Int64.toUInt64 63)).toInt64) &&& (Int64.ofNat 6148914691236517205))) &&& (Int64.ofNat 3689348814741910323)) + ((((x - (((x.toUInt64 >>> ((Int32.ofInt 1).toInt64.toUInt64 &&& Int64.toUInt64 63)).toInt64) &&& (Int64.ofNat 6148914691236517205))).toUInt64 >>> ((Int32.ofInt 2).toInt64.toUInt64 &&& Int64.toUInt64 63)).toInt64) &&& (Int64.ofNat 3689348814741910323))) + (((((x - (((x.toUInt64 >>> ((Int32.ofInt 1).toInt64.toUInt64 &&& Int64.toUInt64 63)).toInt64) &&& (Int64.ofNat 6148914691236517205))) &&& (Int64.ofNat 3689348814741910323)) + ((((x - (((x.toUInt64 >>> ((Int32.ofInt 1).toInt64.toUInt64 &&& Int64.toUInt64 63)).toInt64) &&& (Int64.ofNat 6148914691236517205))).toUInt64 >>> ((Int32.ofInt 2).toInt64.toUInt64 &&& Int64.toUInt64 63)).toInt64) &&& (Int64.ofNat 3689348814741910323))).toUInt64 >>> ((Int32.ofInt 4).toInt64.toUInt64 &&& Int64.toUInt64 63)).toInt64)) &&& (Int64.ofNat 1085102592571150095)).toUInt64 >>> ((Int8.ofInt 8).toInt32.toInt64.toUInt64 &&& Int64.toUInt64 63)).toInt64)).toUInt64 >>> ((Int8.ofInt 16).toInt32.toInt64.toUInt64 &&& Int64.toUInt64 63)).toInt64)) + (((((((((x - (((x.toUInt64 >>> ((Int32.ofInt 1).toInt64.toUInt64 &&& Int64.toUInt64 63)).toInt64) &&& (Int64.ofNat 6148914691236517205))) &&& (Int64.ofNat 3689348814741910323)) + ((((x - (((x.toUInt64 >>> ((Int32.ofInt 1).toInt64.toUInt64 &&& Int64.toUInt64 63)).toInt64) &&& (Int64.ofNat 6148914691236517205))).toUInt64 >>> ((Int32.ofInt 2).toInt64.toUInt64 &&& Int64.toUInt64 63)).toInt64) &&& (Int64.ofNat 3689348814741910323))) + (((((x - (((x.toUInt64 >>> ((Int32.ofInt 1).toInt64.toUInt64 &&& Int64.toUInt64 63)).toInt64) &&& (Int64.ofNat 6148914691236517205))) &&& (Int64.ofNat 3689348814741910323)) + ((((x - (((x.toUInt64 >>> ((Int32.ofInt 1).toInt64.toUInt64 &&& Int64.toUInt64 63)).toInt64) &&& (Int64.ofNat 6148914691236517205))).toUInt64 >>> ((Int32.ofInt 2).toInt64.toUInt64 &&& Int64.toUInt64 63)).toInt64) &&& (Int64.ofNat 3689348814741910323))).toUInt64 >>> ((Int32.ofInt 4).toInt64.toUInt64 &&& Int64.toUInt64 63)).toInt64)) &&& (Int64.ofNat 1085102592571150095)) + (((((((x - (((x.toUInt64 >>> ((Int32.ofInt 1).toInt64.toUInt64 &&& Int64.toUInt64 63)).toInt64) &&& (Int64.ofNat 6148914691236517205))) &&& (Int64.ofNat 3689348814741910323)) + ((((x - (((x.toUInt64 >>> ((Int32.ofInt 1).toInt64.toUInt64 &&& Int64.toUInt64 63)).toInt64) &&& (Int64.ofNat 6148914691236517205))).toUInt64 >>> ((Int32.ofInt 2).toInt64.toUInt64 &&& Int64.toUInt64 63)).toInt64) &&& (Int64.ofNat 3689348814741910323))) + (((((x - (((x.toUInt64 >>> ((Int32.ofInt 1).toInt64.toUInt64 &&& Int64.toUInt64 63)).toInt64) &&& (Int64.ofNat 6148914691236517205))) &&& (Int64.ofNat 3689348814741910323)) + ((((x - (((x.toUInt64 >>> ((Int32.ofInt 1).toInt64.toUInt64 &&& Int64.toUInt64 63)).toInt64) &&& (Int64.ofNat 6148914691236517205))).toUInt64 >>> ((Int32.ofInt 2).toInt64.toUInt64 &&& Int64.toUInt64 63)).toInt64) &&& (Int64.ofNat 3689348814741910323))).toUInt64 >>> ((Int32.ofInt 4).toInt64.toUInt64 &&& Int64.toUInt64 63)).toInt64)) &&& (Int64.ofNat 1085102592571150095)).toUInt64 >>> ((Int8.ofInt 8).toInt32.toInt64.toUInt64 &&& Int64.toUInt64 63)).toInt64)) + ((((((((x - (((x.toUInt64 >>> ((Int32.ofInt 1).toInt64.toUInt64 &&& Int64.toUInt64 63)).toInt64) &&& (Int64.ofNat 6148914691236517205))) &&& (Int64.ofNat 3689348814741910323)) + ((((x - (((x.toUInt64 >>> ((Int32.ofInt 1).toInt64.toUInt64 &&& Int64.toUInt64 63)).toInt64) &&& (Int64.ofNat 6148914691236517205))).toUInt64 >>> ((Int32.ofInt 2).toInt64.toUInt64 &&& Int64.toUInt64 63)).toInt64) &&& (Int64.ofNat 3689348814741910323))) + (((((x - (((x.toUInt64 >>> ((Int32.ofInt 1).toInt64.toUInt64 &&& Int64.toUInt64 63)).toInt64) &&& (Int64.ofNat 6148914691236517205))) &&& (Int64.ofNat 3689348814741910323)) + ((((x - (((x.toUInt64 >>> ((Int32.ofInt 1).toInt64.toUInt64 &&& Int64.toUInt64 63)).toInt64) &&& (Int64.ofNat 6148914691236517205))).toUInt64 >>> ((Int32.ofInt 2).toInt64.toUInt64 &&& Int64.toUInt64 63)).toInt64) &&& (Int64.ofNat 3689348814741910323))).toUInt64 >>> ((Int32.ofInt 4).toInt64.toUInt64 &&& Int64.toUInt64 63)).toInt64)) &&& (Int64.ofNat 1085102592571150095)) + (((((((x - (((x.toUInt64 >>> ((Int32.ofInt 1).toInt64.toUInt64 &&& Int64.toUInt64 63)).toInt64) &&& (Int64.ofNat 6148914691236517205))) &&& (Int64.ofNat 3689348814741910323)) + ((((x - (((x.toUInt64 >>> ((Int32.ofInt 1).toInt64.toUInt64 &&& Int64.toUInt64 63)).toInt64) &&& (Int64.ofNat 6148914691236517205))).toUInt64 >>> ((Int32.ofInt 2).toInt64.toUInt64 &&& Int64.toUInt64 63)).toInt64) &&& (Int64.ofNat 3689348814741910323))) + (((((x - (((x.toUInt64 >>> ((Int32.ofInt 1).toInt64.toUInt64 &&& Int64.toUInt64 63)).toInt64) &&& (Int64.ofNat 6148914691236517205))) &&& (Int64.ofNat 3689348814741910323)) + ((((x - (((x.toUInt64 >>> ((Int32.ofInt 1).toInt64.toUInt64 &&& Int64.toUInt64 63)).toInt64) &&& (Int64.ofNat 6148914691236517205))).toUInt64 >>> ((Int32.ofInt 2).toInt64.toUInt64 &&& Int64.toUInt64 63)).toInt64) &&& (Int64.ofNat 3689348814741910323))).toUInt64 >>> ((Int32.ofInt 4).toInt64.toUInt64 &&& Int64.toUInt64 63)).toInt64)) &&& (Int64.ofNat 1085102592571150095)).toUInt64 >>> ((Int8.ofInt 8).toInt32.toInt64.toUInt64 &&& Int64.toUInt64 63)).toInt64)).toUInt64 >>> ((Int8.ofInt 16).toInt32.toInt64.toUInt64 &&& Int64.toUInt64 63)).toInt64)).toUInt64 >>> ((Int8.ofInt 32).toInt32.toInt64.toUInt64 &&& Int64.toUInt64 63)).toInt64))), none]) rfl (Nat.le_of_ble_eq_true rfl) rfl ?_
  refine g_lload_n (i := 0) rfl rfl ?_
  refine g_l2i rfl ?_
  refine g_bipush (n := 127) rfl ?_
  refine g_iand rfl ?_
  refine g_ireturn (ty := .int) rfl rfl rfl ?_
  exact ⟨rfl, congrArg (fun z => some (Value.int z)) key⟩
