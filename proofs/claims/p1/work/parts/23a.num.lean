/-! ===== counting bits of small numbers ===== -/
def bsh (x : Int64) (k : Int32) : Int64 := (x.toUInt64 >>> (k.toInt64.toUInt64 &&& Int64.toUInt64 63)).toInt64
def bc1 (s : Int64) : Int64 := s - (bsh s 1 &&& 6148914691236517205)
def bc2 (s : Int64) : Int64 := (s &&& 3689348814741910323) + (bsh s 2 &&& 3689348814741910323)
def bc3 (s : Int64) : Int64 := (s + bsh s 4) &&& 1085102592571150095
def bc4 (s : Int64) : Int64 := s + bsh s 8
def bc5 (s : Int64) : Int64 := s + bsh s 16
def bc6 (s : Int64) : Int64 := s + bsh s 32
def bc (s : Int64) : Int32 := (bc6 (bc5 (bc4 (bc3 (bc2 (bc1 s)))))).toInt32 &&& 127
def kn : Nat → Int64 → Int32 → Option Int32
  | 0, _, _ => none
  | f + 1, l, n => if l = 0 then some n else kn f (l &&& (l - 1)) (n + 1)
abbrev i6 (n : Nat) : Int64 := Int64.ofNat n
theorem i6_bv (n : Nat) : (i6 n).toBitVec = BitVec.ofNat 64 n := rfl
theorem i6_ext {x y : Int64} (h : x.toBitVec = y.toBitVec) : x = y := Int64.toBitVec_inj.mp h
theorem i6_and (a b : Nat) : i6 a &&& i6 b = i6 (a &&& b) := by
  apply i6_ext
  apply BitVec.eq_of_toNat_eq
  show (BitVec.ofNat 64 a &&& BitVec.ofNat 64 b).toNat = (BitVec.ofNat 64 (a &&& b)).toNat
  rw [BitVec.toNat_and, BitVec.toNat_ofNat, BitVec.toNat_ofNat, BitVec.toNat_ofNat, Nat.and_mod_two_pow]
theorem i6_add (a b : Nat) : i6 a + i6 b = i6 (a + b) := (Int64.ofNat_add a b).symm
theorem i6_sub {a b : Nat} (h : b ≤ a) : i6 a - i6 b = i6 (a - b) := by
  have e : i6 (a - b) + i6 b = i6 a := by rw [i6_add, Nat.sub_add_cancel h]
  rw [← e]
  apply i6_ext
  show (i6 (a - b)).toBitVec + (i6 b).toBitVec - (i6 b).toBitVec = _
  rw [BitVec.add_sub_cancel]
theorem i6_shr {a : Nat} (ha : a < 2 ^ 64) (k : Nat) {x : Int64} (h : x.toBitVec = (i6 a).toBitVec >>> k) : x = i6 (a >>> k) := by
  apply i6_ext
  rw [h]
  apply BitVec.eq_of_toNat_eq
  rw [i6_bv, i6_bv, BitVec.toNat_ushiftRight, BitVec.toNat_ofNat, BitVec.toNat_ofNat, Nat.mod_eq_of_lt ha, Nat.mod_eq_of_lt]
  exact Nat.lt_of_le_of_lt (Nat.shiftRight_le _ _) ha
theorem bsh_1 {a : Nat} (ha : a < 2 ^ 64) : bsh (i6 a) 1 = i6 (a >>> 1) := i6_shr ha 1 rfl
theorem bsh_2 {a : Nat} (ha : a < 2 ^ 64) : bsh (i6 a) 2 = i6 (a >>> 2) := i6_shr ha 2 rfl
theorem bsh_4 {a : Nat} (ha : a < 2 ^ 64) : bsh (i6 a) 4 = i6 (a >>> 4) := i6_shr ha 4 rfl
theorem bsh_8 {a : Nat} (ha : a < 2 ^ 64) : bsh (i6 a) 8 = i6 (a >>> 8) := i6_shr ha 8 rfl
theorem bsh_16 {a : Nat} (ha : a < 2 ^ 64) : bsh (i6 a) 16 = i6 (a >>> 16) := i6_shr ha 16 rfl
theorem bsh_32 {a : Nat} (ha : a < 2 ^ 64) : bsh (i6 a) 32 = i6 (a >>> 32) := i6_shr ha 32 rfl
def bN1 (s : Nat) : Nat := s - (s >>> 1 &&& 6148914691236517205)
def bN2 (s : Nat) : Nat := (s &&& 3689348814741910323) + (s >>> 2 &&& 3689348814741910323)
def bN3 (s : Nat) : Nat := (s + s >>> 4) &&& 1085102592571150095
def bN4 (s : Nat) : Nat := s + s >>> 8
def bN5 (s : Nat) : Nat := s + s >>> 16
def bN6 (s : Nat) : Nat := s + s >>> 32
theorem sr_le (s k : Nat) : s >>> k ≤ s := Nat.shiftRight_le _ _
theorem bN_ok {n : Nat} (h : n < 65536) : bc6 (bc5 (bc4 (bc3 (bc2 (bc1 (i6 n)))))) = i6 (bN6 (bN5 (bN4 (bN3 (bN2 (bN1 n)))))) := by
  have p : (2 : Nat) ^ 64 = 18446744073709551616 := by decide
  have e1 : bc1 (i6 n) = i6 (bN1 n) := by
    unfold bc1 bN1
    rw [bsh_1 (by omega), show (6148914691236517205 : Int64) = i6 6148914691236517205 from rfl, i6_and, i6_sub (Nat.le_trans Nat.and_le_left (sr_le _ _))]
  have l1 : bN1 n ≤ n := Nat.sub_le _ _
  have e2 : bc2 (i6 (bN1 n)) = i6 (bN2 (bN1 n)) := by
    unfold bc2 bN2
    rw [bsh_2 (by omega), show (3689348814741910323 : Int64) = i6 3689348814741910323 from rfl, i6_and, i6_and, i6_add]
  have l2 : bN2 (bN1 n) ≤ 2 * n := by
    unfold bN2
    have q1 : (bN1 n &&& 3689348814741910323) ≤ bN1 n := Nat.and_le_left
    have q2 : (bN1 n >>> 2 &&& 3689348814741910323) ≤ bN1 n := Nat.le_trans Nat.and_le_left (sr_le _ _)
    omega
  have e3 : bc3 (i6 (bN2 (bN1 n))) = i6 (bN3 (bN2 (bN1 n))) := by
    unfold bc3 bN3
    rw [bsh_4 (by omega), show (1085102592571150095 : Int64) = i6 1085102592571150095 from rfl, i6_add, i6_and]
  have l3 : bN3 (bN2 (bN1 n)) ≤ 4 * n := by
    unfold bN3
    have q1 : ((bN2 (bN1 n) + bN2 (bN1 n) >>> 4) &&& 1085102592571150095) ≤ bN2 (bN1 n) + bN2 (bN1 n) >>> 4 := Nat.and_le_left
    have q2 := sr_le (bN2 (bN1 n)) 4
    omega
  have e4 : bc4 (i6 (bN3 (bN2 (bN1 n)))) = i6 (bN4 (bN3 (bN2 (bN1 n)))) := by
    unfold bc4 bN4
    rw [bsh_8 (by omega), i6_add]
  have l4 : bN4 (bN3 (bN2 (bN1 n))) ≤ 8 * n := by
    unfold bN4
    have q2 := sr_le (bN3 (bN2 (bN1 n))) 8
    omega
  have e5 : bc5 (i6 (bN4 (bN3 (bN2 (bN1 n))))) = i6 (bN5 (bN4 (bN3 (bN2 (bN1 n))))) := by
    unfold bc5 bN5
    rw [bsh_16 (by omega), i6_add]
  have l5 : bN5 (bN4 (bN3 (bN2 (bN1 n)))) ≤ 16 * n := by
    unfold bN5
    have q2 := sr_le (bN4 (bN3 (bN2 (bN1 n)))) 16
    omega
  rw [e1, e2, e3, e4, e5]
  unfold bc6 bN6
  rw [bsh_32 (by omega), i6_add]
def bN (n : Nat) : Nat := bN6 (bN5 (bN4 (bN3 (bN2 (bN1 n)))))
def knN : Nat → Nat → Nat → Option Nat
  | 0, _, _ => none
  | f + 1, l, n => bif Nat.beq l 0 then some n else knN f (l &&& (l - 1)) (n + 1)
theorem i6_0 {l : Nat} (h : l < 65536) : i6 l = 0 ↔ l = 0 := by
  constructor
  · intro e
    have e1 : (i6 l).toBitVec.toNat = (0 : Int64).toBitVec.toNat := by rw [e]
    rw [i6_bv, BitVec.toNat_ofNat, Nat.mod_eq_of_lt (by omega)] at e1
    exact e1
  · intro e; rw [e]; rfl
theorem kn_ok : ∀ (f l n : Nat), l < 65536 → kn f (i6 l) (Int32.ofNat n) = (knN f l n).map Int32.ofNat := by
  intro f
  induction f with
  | zero => intro l n _; rfl
  | succ f ih =>
    intro l n h
    unfold kn knN
    rw [aBq]
    by_cases e : l = 0
    · rw [if_pos ((i6_0 h).mpr e), decide_eq_true e]; rfl
    · rw [if_neg (fun q => e ((i6_0 h).mp q)), decide_eq_false e]
      have e1 : i6 l &&& (i6 l - 1) = i6 (l &&& (l - 1)) := by
        rw [show (1 : Int64) = i6 1 from rfl, i6_sub (by omega), i6_and]
      have e2 : Int32.ofNat n + 1 = Int32.ofNat (n + 1) := (Int32.ofNat_add n 1).symm
      rw [e1, e2]
      exact ih _ _ (Nat.lt_of_le_of_lt Nat.and_le_left h)
def knT (n : Nat) : Bool := match knN 17 n 0 with
  | some r => Nat.beq r (bN n % 128) && Nat.ble r 16
  | none => false
def brk (t : Nat → Bool) : Nat → Nat → Bool
  | 0, lo => aF lo t
  | d + 1, lo => brk t d lo && brk t d (lo + 2 ^ d)
theorem brk_ok {t : Nat → Bool} : ∀ (d lo : Nat), brk t d lo = true → ∀ n, lo ≤ n → n < lo + 2 ^ d → t n = true := by
  intro d
  induction d with
  | zero =>
    intro lo h n h1 h2
    unfold brk at h
    rw [aF_eq] at h
    rw [show n = lo by omega]
    exact h
  | succ d ih =>
    intro lo h n h1 h2
    obtain ⟨a, b⟩ := aBa h
    rw [Nat.pow_succ] at h2
    by_cases q : n < lo + 2 ^ d
    · exact ih lo a n h1 q
    · exact ih (lo + 2 ^ d) b n (by omega) (by omega)
theorem kn_0 : brk knT 14 0 = true := by decide +kernel
theorem kn_1 : brk knT 14 16384 = true := by decide +kernel
theorem kn_2 : brk knT 14 32768 = true := by decide +kernel
theorem kn_3 : brk knT 14 49152 = true := by decide +kernel
theorem kn_all {n : Nat} (h : n < 65536) : knT n = true := by
  by_cases h1 : n < 16384
  · exact brk_ok 14 0 kn_0 n (by omega) (by omega)
  · by_cases h2 : n < 32768
    · exact brk_ok 14 16384 kn_1 n (by omega) (by omega)
    · by_cases h3 : n < 49152
      · exact brk_ok 14 32768 kn_2 n (by omega) (by omega)
      · exact brk_ok 14 49152 kn_3 n (by omega) (by omega)
theorem kn_bc {n : Nat} (h : n < 65536) : kn 17 (i6 n) 0 = some (bc (i6 n)) := by
  have h1 := kn_all h
  unfold knT at h1
  split at h1
  · rename_i r hr
    obtain ⟨a, b⟩ := aBa h1
    have a := aBt a
    have b := Nat.le_of_ble_eq_true b
    have e := kn_ok 17 n 0 h
    rw [hr] at e
    rw [show (0 : Int32) = Int32.ofNat 0 from rfl, e]
    show some (Int32.ofNat r) = some (bc (i6 n))
    congr 1
    unfold bc
    rw [bN_ok h]
    show Int32.ofNat r = (i6 (bN n)).toInt32 &&& 127
    apply Int32.toBitVec_inj.mp
    apply BitVec.eq_of_toNat_eq
    show (BitVec.ofNat 32 r).toNat = (((i6 (bN n)).toBitVec.signExtend 32) &&& (127 : Int32).toBitVec).toNat
    rw [BitVec.toNat_and, BitVec.signExtend_eq_setWidth_of_le _ (by decide), BitVec.toNat_setWidth, i6_bv, BitVec.toNat_ofNat, BitVec.toNat_ofNat]
    show r % 2 ^ 32 = bN n % 2 ^ 64 % 2 ^ 32 &&& 127
    rw [show (127 : Nat) = 2 ^ 7 - 1 by decide, Nat.and_two_pow_sub_one_eq_mod]
    omega
  · cases h1
/-- a set within the field -/
theorem set_i6 {s : Int64} (h : s &&& Int64.ofInt (-65536) = 0) : ∃ n, n < 65536 ∧ s = i6 n := by
  refine ⟨s.toBitVec.toNat, ?_, ?_⟩
  · have h1 : s.toBitVec &&& (Int64.ofInt (-65536)).toBitVec = 0#64 := by rw [← Int64.toBitVec_and, h]; rfl
    have h2 : s.toBitVec = s.toBitVec &&& 65535#64 := by
      apply BitVec.eq_of_getLsbD_eq
      intro i hi
      have h3 : (s.toBitVec &&& (Int64.ofInt (-65536)).toBitVec).getLsbD i = false := by rw [h1]; simp
      rw [BitVec.getLsbD_and] at h3 ⊢
      have h4 : ∀ j, j < 64 → (Int64.ofInt (-65536)).toBitVec.getLsbD j = !((65535#64).getLsbD j) := by decide
      rw [h4 i hi] at h3
      cases hb : (65535#64).getLsbD i with
      | true => simp
      | false =>
        rw [hb] at h3
        simpa using h3
    rw [h2, BitVec.toNat_and]
    exact Nat.lt_of_le_of_lt Nat.and_le_right (by decide)
  · apply i6_ext
    rw [i6_bv, BitVec.ofNat_toNat, BitVec.setWidth_eq]
