/-! ===== pieces of a set: both ways of counting them, as numbers ===== -/
def ptMk (q : Nat) : List Nat := (bif Nat.blt 0 (q % 4) then [2 ^ (q - 1)] else []) ++ ((bif Nat.blt (q % 4 + 1) 4 then [2 ^ (q + 1)] else []) ++ ((bif Nat.ble 4 q then [2 ^ (q - 4)] else []) ++ (bif Nat.blt (q + 4) 16 then [2 ^ (q + 4)] else [])))
def orL (l : List Nat) (x : Nat) : Nat := l.foldl (fun y c => y ||| c) x
def bnF : Nat → Nat → Nat → Nat → Nat
  | 0, _, _, x => x
  | n + 1, q, a, x => bnF n (q + 1) a (bif Nat.beq (a >>> q &&& 1) 1 then orL (ptMk q) x else x)
def bnN (a : Nat) : Nat := bnF 16 0 a 0
def wN (a : Nat) : Nat := (a ||| (((a <<< 4 ||| a >>> 4) ||| (a &&& 18446744073709516663) <<< 1) ||| (a &&& 18446744073709547246) >>> 1)) &&& 65535
theorem wN_or (a b : Nat) : wN (a ||| b) = wN a ||| wN b := by
  unfold wN
  simp only [Nat.and_or_distrib_right, Nat.shiftLeft_or_distrib, Nat.shiftRight_or_distrib]
  ac_rfl
theorem orL_x : ∀ (l : List Nat) (x : Nat), orL l x = x ||| orL l 0 := by
  intro l
  induction l with
  | nil => intro x; exact (Nat.or_zero x).symm
  | cons c r ih =>
    intro x
    show orL r (x ||| c) = x ||| orL r (0 ||| c)
    rw [ih (x ||| c), ih (0 ||| c), Nat.zero_or, Nat.or_assoc]
theorem wN_two : (List.range 16).all (fun q => Nat.beq (wN (2 ^ q)) (2 ^ q ||| orL (ptMk q) 0)) = true := by decide +kernel
def lwr (a q : Nat) : Nat := a &&& (2 ^ q - 1)
theorem lwr_s (a q : Nat) : lwr a (q + 1) = lwr a q ||| (if a.testBit q = true then 2 ^ q else 0) := by
  unfold lwr
  apply Nat.eq_of_testBit_eq
  intro i
  rw [Nat.testBit_and, Nat.testBit_or, Nat.testBit_and, Nat.testBit_two_pow_sub_one, Nat.testBit_two_pow_sub_one]
  by_cases h : i = q
  · subst h
    rw [decide_eq_true (show i < i + 1 by omega), decide_eq_false (show ¬ i < i by omega)]
    by_cases ha : a.testBit i = true
    · rw [if_pos ha, ha, Nat.testBit_two_pow_self]; rfl
    · rw [if_neg ha, Nat.zero_testBit]
      cases hb : a.testBit i with
      | true => exact absurd hb ha
      | false => rfl
  · have e : (if a.testBit q = true then 2 ^ q else 0).testBit i = false := by
      split
      · rw [Nat.testBit_two_pow]; exact decide_eq_false (fun e => h e.symm)
      · exact Nat.zero_testBit _
    rw [e, Bool.or_false]
    congr 1
    by_cases h2 : i < q
    · rw [decide_eq_true h2, decide_eq_true (show i < q + 1 by omega)]
    · rw [decide_eq_false h2, decide_eq_false (show ¬ i < q + 1 by omega)]
theorem bit_beq (a q : Nat) : Nat.beq (a >>> q &&& 1) 1 = a.testBit q := by
  rw [aBq, Nat.and_one_is_mod, Nat.shiftRight_eq_div_pow, Nat.testBit_eq_decide_div_mod_eq]
theorem bnF_ok (a : Nat) : ∀ (n q x : Nat), q + n = 16 → x ||| lwr a q = wN (lwr a q) → bnF n q a x ||| lwr a 16 = wN (lwr a 16) := by
  intro n
  induction n with
  | zero => intro q x h g; cases (show q = 16 by omega); exact g
  | succ n ih =>
    intro q x h g
    unfold bnF
    refine ih (q + 1) _ (by omega) ?_
    have h2 := aBt (List.all_eq_true.mp wN_two q (List.mem_range.mpr (by omega)))
    rw [bit_beq, lwr_s]
    cases hb : a.testBit q with
    | true =>
      rw [if_pos rfl, wN_or, h2, ← g]
      show orL (ptMk q) x ||| (lwr a q ||| 2 ^ q) = _
      rw [orL_x]
      ac_rfl
    | false =>
      rw [if_neg (by decide), Nat.or_zero, ← g]
      rfl
theorem wn_all {n : Nat} (h : n < 65536) : wN n = n ||| bnN n := by
  have h1 := bnF_ok n 16 0 0 rfl (by
    have e : lwr n 0 = 0 := by unfold lwr; exact Nat.and_zero n
    rw [e]
    decide)
  have e : lwr n 16 = n := by
    unfold lwr
    rw [Nat.and_two_pow_sub_one_eq_mod]
    exact Nat.mod_eq_of_lt h
  rw [e] at h1
  rw [← h1]
  exact Nat.or_comm _ _
theorem bn_lt {n : Nat} (h : n < 65536) : bnN n < 65536 := by
  have h1 := wn_all h
  have h2 : bnN n ≤ n ||| bnN n := Nat.right_le_or
  have h3 : wN n ≤ 65535 := Nat.and_le_right
  omega
/-- a lies in b -/
def sub (a b : Nat) : Prop := a &&& b = a
theorem sub_bit {a b : Nat} (h : sub a b) {i : Nat} (hi : a.testBit i = true) : b.testBit i = true := by
  have e : (a &&& b).testBit i = true := by rw [h]; exact hi
  rw [Nat.testBit_and] at e
  exact (aBa e).2
theorem sub_of {a b : Nat} (h : ∀ i, a.testBit i = true → b.testBit i = true) : sub a b := by
  apply Nat.eq_of_testBit_eq
  intro i
  rw [Nat.testBit_and]
  cases ha : a.testBit i with
  | false => rfl
  | true => rw [h i ha]; rfl
theorem sub_lt {a b : Nat} (h : sub a b) (hb : b < 65536) : a < 65536 := by
  rw [← h]
  exact Nat.lt_of_le_of_lt Nat.and_le_right hb
theorem sub_tr {a b c : Nat} (h : sub a b) (g : sub b c) : sub a c := sub_of fun _ hi => sub_bit g (sub_bit h hi)
def cB : Nat → Nat → Nat
  | 0, _ => 0
  | k + 1, a => (if a.testBit k = true then 1 else 0) + cB k a
theorem cB_le (k a : Nat) : cB k a ≤ k := by
  induction k with
  | zero => exact Nat.le_refl _
  | succ k ih =>
    unfold cB
    split <;> omega
theorem cB_mono {a b : Nat} (h : ∀ i, a.testBit i = true → b.testBit i = true) (k : Nat) : cB k a ≤ cB k b := by
  induction k with
  | zero => exact Nat.le_refl _
  | succ k ih =>
    unfold cB
    by_cases ha : a.testBit k = true
    · rw [if_pos ha, if_pos (h k ha)]; omega
    · rw [if_neg ha]; omega
theorem cB_lt {a b : Nat} (h : ∀ i, a.testBit i = true → b.testBit i = true) {j : Nat} (hj : b.testBit j = true) (hn : ¬ a.testBit j = true) : ∀ k, j < k → cB k a < cB k b := by
  intro k
  induction k with
  | zero => intro h; omega
  | succ k ih =>
    intro hk
    unfold cB
    by_cases e : j = k
    · subst e
      rw [if_neg hn, if_pos hj]
      have := cB_mono h j
      omega
    · have := ih (by omega)
      by_cases ha : a.testBit k = true
      · rw [if_pos ha, if_pos (h k ha)]; omega
      · rw [if_neg ha]; omega
theorem bit_lt {a i : Nat} (h : a < 65536) (hi : a.testBit i = true) : i < 16 := by
  by_cases e : i < 16
  · exact e
  · have h1 : a < 2 ^ i := Nat.lt_of_lt_of_le h (Nat.pow_le_pow_right (n := 2) (by decide) (show 16 ≤ i by omega))
    rw [Nat.testBit_lt_two_pow h1] at hi
    cases hi
theorem sub_ne {a b : Nat} (h : sub a b) (hb : b < 65536) (hn : b ≠ a) : cB 16 a < cB 16 b := by
  by_cases e : ∃ j, b.testBit j = true ∧ ¬ a.testBit j = true
  · obtain ⟨j, h1, h2⟩ := e
    exact cB_lt (fun i hi => sub_bit h hi) h1 h2 16 (bit_lt hb h1)
  · exfalso
    refine hn ?_
    apply Nat.eq_of_testBit_eq
    intro i
    cases hbi : b.testBit i with
    | true =>
      by_cases ha : a.testBit i = true
      · exact ha.symm
      · exact absurd ⟨i, hbi, ha⟩ e
    | false =>
      cases hai : a.testBit i with
      | false => rfl
      | true => rw [sub_bit h hai] at hbi; cases hbi
def nx (b a : Nat) : Nat := a ||| (bnN a &&& b)
theorem nx_sub (b a : Nat) : sub a (nx b a) := sub_of fun i hi => by unfold nx; rw [Nat.testBit_or, hi]; rfl
theorem nx_in {b a : Nat} (h : sub a b) : sub (nx b a) b := sub_of fun i hi => by
  unfold nx at hi
  rw [Nat.testBit_or, Nat.testBit_and, Bool.or_eq_true] at hi
  rcases hi with hi | hi
  · exact sub_bit h hi
  · exact (aBa hi).2
theorem wN_nx {b a : Nat} (h : sub a b) (hb : b < 65536) : wN a &&& b = nx b a := by
  rw [wn_all (sub_lt h hb)]
  unfold nx
  rw [Nat.and_or_distrib_right, h]
def gN : Nat → Nat → Nat → Option Nat
  | 0, _, _ => none
  | f + 1, b, a => if nx b a = a then some a else gN f b (nx b a)
theorem gN_ok {b : Nat} (hb : b < 65536) : ∀ (f a : Nat), sub a b → 16 < f + cB 16 a → ∃ r, gN f b a = some r ∧ sub a r ∧ sub r b := by
  intro f
  induction f with
  | zero => intro a _ h; have := cB_le 16 a; omega
  | succ f ih =>
    intro a ha h
    unfold gN
    by_cases e : nx b a = a
    · rw [if_pos e]
      exact ⟨a, rfl, Nat.and_self a, ha⟩
    · rw [if_neg e]
      have h1 := sub_ne (nx_sub b a) (sub_lt (nx_in ha) hb) e
      obtain ⟨r, h2, h3, h4⟩ := ih (nx b a) (nx_in ha) (by omega)
      exact ⟨r, h2, sub_tr (nx_sub b a) h3, h4⟩
def lowN (r : Nat) : Nat := r &&& (18446744073709551616 - r)
def lwT (r : Nat) : Bool := Nat.beq r 0 || !(Nat.beq (lowN r) 0)
theorem lw_0 : brk lwT 16 0 = true := by decide +kernel
theorem low_ne {r : Nat} (h : r < 65536) (h0 : r ≠ 0) : lowN r ≠ 0 := by
  have h1 : lwT r = true := brk_ok 16 0 lw_0 r (by omega) (by omega)
  unfold lwT at h1
  rw [aBq, aBq, decide_eq_false h0] at h1
  intro e
  rw [e] at h1
  cases h1
theorem low_sub (r : Nat) : sub (lowN r) r := by
  unfold sub lowN
  rw [Nat.and_assoc, Nat.and_comm _ r, ← Nat.and_assoc, Nat.and_self]
def rmN (r g : Nat) : Nat := r &&& (g ^^^ 18446744073709551615)
theorem rm_sub (r g : Nat) : sub (rmN r g) r := by
  unfold sub rmN
  rw [Nat.and_assoc, Nat.and_comm _ r, ← Nat.and_assoc, Nat.and_self]
theorem rm_lt {r g : Nat} (hr : r < 65536) (h0 : r ≠ 0) (hg : sub (lowN r) g) : cB 16 (rmN r g) < cB 16 r := by
  have h1 : ∃ j, (lowN r).testBit j = true := by
    by_cases e : ∃ j, (lowN r).testBit j = true
    · exact e
    · exfalso
      refine low_ne hr h0 ?_
      apply Nat.eq_of_testBit_eq
      intro i
      rw [Nat.zero_testBit]
      cases hi : (lowN r).testBit i with
      | false => rfl
      | true => exact absurd ⟨i, hi⟩ e
  obtain ⟨j, hj⟩ := h1
  have hjr := sub_bit (low_sub r) hj
  have hj16 := bit_lt hr hjr
  refine cB_lt (fun i hi => sub_bit (rm_sub r g) hi) hjr ?_ 16 hj16
  unfold rmN
  rw [Nat.testBit_and, Nat.testBit_xor, sub_bit hg hj, show (18446744073709551615 : Nat) = 2 ^ 64 - 1 by decide, Nat.testBit_two_pow_sub_one, decide_eq_true (show j < 64 by omega)]
  rw [hjr]
  decide
def pN : Nat → Nat → Nat → Option Nat
  | 0, _, _ => none
  | f + 1, r, n => if r = 0 then some n else (match gN 17 r (lowN r) with
    | some g => pN f (rmN r g) (n + 1)
    | none => none)
theorem pN_ok : ∀ (f r n : Nat), r < 65536 → cB 16 r < f → ∃ k, pN f r n = some k := by
  intro f
  induction f with
  | zero => intro r n _ h; omega
  | succ f ih =>
    intro r n hr h
    unfold pN
    by_cases e : r = 0
    · rw [if_pos e]; exact ⟨n, rfl⟩
    · rw [if_neg e]
      have hl : cB 16 (lowN r) ≤ 16 := cB_le 16 _
      obtain ⟨g, h1, h2, h3⟩ := gN_ok hr 17 (lowN r) (low_sub r) (by omega)
      rw [h1]
      have h4 := rm_lt hr e h2
      exact ih (rmN r g) (n + 1) (sub_lt (rm_sub r g) hr) (by omega)
