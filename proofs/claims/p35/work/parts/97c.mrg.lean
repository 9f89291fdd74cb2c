section
/-! ===== a change for less hedge ===== -/
def owC (ow : Nat → Int32) (q k : Nat) : Nat → Int32 := fun z => if z = q then Int32.ofNat k else ow z
noncomputable def chP (s : Sg) (S : Nat → Int64) (ow : Nat → Int32) (q k : Nat) : Prop := ((0 ≤ (ow q).toInt ∧ (ow q).toInt < (s.2.2 : Int)) ∧ ¬ ow q = Int32.ofNat k) ∧ ¬ S k &&& besS s.1 (s.1 * s.2.1) (Int64.ofNat 1 <<< ((Int32.ofNat q).toInt64 &&& 63)) = Int64.ofNat 0
noncomputable def btS (m : MF) (s : Sg) (S : Nat → Int64) (ow : Nat → Int32) (q k : Nat) (t : T3) : T3 := @ite _ (chP s S ow q k) (Classical.propDecidable _) (trS m s (10 * q + k) 0 (owC ow q k) t) t
theorem btS_y {m : MF} {s : Sg} {S : Nat → Int64} {ow : Nat → Int32} {q k : Nat} {t : T3} (h : chP s S ow q k) : btS m s S ow q k t = trS m s (10 * q + k) 0 (owC ow q k) t := @if_pos _ (Classical.propDecidable _) h _ _ _
theorem btS_n {m : MF} {s : Sg} {S : Nat → Int64} {ow : Nat → Int32} {q k : Nat} {t : T3} (h : ¬ chP s S ow q k) : btS m s S ow q k t = t := @if_neg _ (Classical.propDecidable _) h _ _ _
theorem btS_le {m : MF} {s : Sg} {S : Nat → Int64} {ow : Nat → Int32} {q k : Nat} {t : T3} (h : t.2 ≤ 1000) : (btS m s S ow q k t).2 ≤ 1000 := by
  by_cases z : chP s S ow q k
  · rw [btS_y z]; exact trS_le h
  · rw [btS_n z]; exact h
/-- the codes found name a square and an heir -/
def cdB (n N : Nat) (t : T3) : Prop := ∀ a c, t.1 = some (a, c) → ∃ q k, a = 10 * q + k ∧ q < n ∧ k < N
theorem cdB_S {m : MF} {s : Sg} {S : Nat → Int64} {ow : Nat → Int32} {q k : Nat} {t : T3} (h : cdB (s.1 * s.2.1) s.2.2 t) (hq : q < s.1 * s.2.1) (hk : k < s.2.2) : cdB (s.1 * s.2.1) s.2.2 (btS m s S ow q k t) := by
  by_cases z : chP s S ow q k
  · rw [btS_y z]
    unfold trS
    by_cases y : hdN s.1 (s.1 * s.2.1) (owC ow q k) (s.1 * s.2.1) < t.2 ∧ vdA m s (ST (owC ow q k) (s.1 * s.2.1)) = none
    · rw [tS_y y]; intro a c e; cases e; exact ⟨q, k, rfl, hq, hk⟩
    · rw [tS_n y]; exact h
  · rw [btS_n z]; exact h
noncomputable def btI (m : MF) (s : Sg) (S : Nat → Int64) (ow : Nat → Int32) (q : Nat) : Nat → Nat → T3 → T3
  | 0, _, t => t
  | f + 1, k, t => btI m s S ow q f (k + 1) (btS m s S ow q k t)
noncomputable def btL (m : MF) (s : Sg) (S : Nat → Int64) (ow : Nat → Int32) : Nat → Nat → T3 → T3
  | 0, _, t => t
  | f + 1, q, t => btL m s S ow f (q + 1) (btI m s S ow q s.2.2 0 t)
/-- the best change -/
noncomputable def btA (m : MF) (s : Sg) (ow : Nat → Int32) : T3 := btL m s (ST ow (s.1 * s.2.1)) ow (s.1 * s.2.1) 0 (none, hdN s.1 (s.1 * s.2.1) ow (s.1 * s.2.1))
theorem btI_p {m : MF} {s : Sg} {S : Nat → Int64} {ow : Nat → Int32} {q : Nat} (hq : q < s.1 * s.2.1) : ∀ (f k : Nat) (t : T3), k + f = s.2.2 → t.2 ≤ 1000 → cdB (s.1 * s.2.1) s.2.2 t → (btI m s S ow q f k t).2 ≤ 1000 ∧ cdB (s.1 * s.2.1) s.2.2 (btI m s S ow q f k t) := by
  intro f
  induction f with
  | zero => intro k t _ h1 h2; exact ⟨h1, h2⟩
  | succ f ih => intro k t hk h1 h2; exact ih (k + 1) _ (by omega) (btS_le h1) (cdB_S h2 hq (by omega))
theorem btL_p {m : MF} {s : Sg} {S : Nat → Int64} {ow : Nat → Int32} : ∀ (f q : Nat) (t : T3), q + f = s.1 * s.2.1 → t.2 ≤ 1000 → cdB (s.1 * s.2.1) s.2.2 t → (btL m s S ow f q t).2 ≤ 1000 ∧ cdB (s.1 * s.2.1) s.2.2 (btL m s S ow f q t) := by
  intro f
  induction f with
  | zero => intro q t _ h1 h2; exact ⟨h1, h2⟩
  | succ f ih => intro q t hq h1 h2; have k := btI_p (m := m) (S := S) (ow := ow) (q := q) (by omega) s.2.2 0 t (Nat.zero_add _) h1 h2; exact ih (q + 1) _ (by omega) k.1 k.2
theorem btA_p {m : MF} {s : Sg} {ow : Nat → Int32} (hn : s.1 * s.2.1 ≤ 64) : (btA m s ow).2 ≤ 1000 ∧ cdB (s.1 * s.2.1) s.2.2 (btA m s ow) := btL_p _ 0 _ (Nat.zero_add _) (by have := hdN_le (W := s.1) (n := s.1 * s.2.1) (ow := ow) (s.1 * s.2.1); show hdN _ _ _ _ ≤ 1000; omega) (fun _ _ z => by cases z)
def cdT (t : T3) : Int32 := match t.1 with
  | none => Int32.ofInt (-1)
  | some (a, _) => Int32.ofNat a
theorem bsC_T {B : Nat → Int32} {t : T3} (b : bsC B t) : B 0 = cdT t := by
  obtain ⟨t1, t2⟩ := t
  rcases t1 with _ | ⟨a, c⟩
  · exact b.1
  · exact b.1.1
theorem bit_a0 {x : Int64} {q : Nat} (hq : q < 64) : x &&& (Int64.ofNat 1 <<< ((Int32.ofNat q).toInt64 &&& 63)) = Int64.ofNat 0 ↔ bt x q = false := by
  constructor
  · intro z
    have z2 := bt_eq0.mp z q hq
    rw [bt_and, bt_one hq, decide_eq_true rfl, Bool.and_true] at z2
    exact z2
  · intro z
    refine bt_eq0.mpr (fun i hi => ?_)
    rw [bt_and, bt_one hq]
    by_cases e : i = q
    · rw [e, z]; rfl
    · rw [decide_eq_false e, Bool.and_false]
theorem near_iff {x b : Int64} {q : Nat} (hq : q < 64) (h : bt x q = false) : x &&& ((Int64.ofNat 1 <<< ((Int32.ofNat q).toInt64 &&& 63)) ||| b) = Int64.ofNat 0 ↔ x &&& b = Int64.ofNat 0 := by
  have e : x &&& ((Int64.ofNat 1 <<< ((Int32.ofNat q).toInt64 &&& 63)) ||| b) = x &&& b := bt_ext (fun i hi => by
    rw [bt_and, bt_and, bt_or, bt_one hq]
    by_cases z : i = q
    · rw [z, h]; rfl
    · rw [decide_eq_false z, Bool.false_or])
  rw [e]
theorem PT_own {S : Nat → Int64} {ow : Nat → Int32} {n q : Nat} (hn : n ≤ 64) (P : PT S ow n) (hq : q < n) (k : Nat) (hk : k < 7) : (S k &&& (Int64.ofNat 1 <<< ((Int32.ofNat q).toInt64 &&& 63)) = Int64.ofNat 0 ↔ ¬ ow q = cdS k) := by
  rw [bit_a0 (by omega), PT_bt hn P hk hq]
  exact ⟨fun z => of_decide_eq_false z, fun z => decide_eq_false z⟩
theorem s_ownAt_go {d : Nat} {h : sHp} {c : CF} {W H : Nat} {ow : Nat → Int32} {q : Nat} (F : FC h 5 c) (g : gdF c W H) (P : PT c.2.2.2.2.2.2 ow (W * H)) (hq : q < W * H) (h5 : ¬ ow q = cdS 5) : ∀ (f k : Nat), k + f = 5 → (∀ j, j < k → ¬ ow q = cdS j) → sGo none 41 d 25 [some (.ref 5), some (.int (Int32.ofNat q)), some (.long (Int64.ofNat 1 <<< ((Int32.ofNat q).toInt64 &&& 63))), none, some (.int (Int32.ofNat k))] [] h (fun r h' => h' = h ∧ r = some (.int (ow q))) := by
  have hn := gdF_n g
  intro f
  induction f with
  | zero =>
    intro k hk no
    have k5 : k = 5 := by omega
    subst k5
    have e6 : ow q = cdS 6 := by
      obtain ⟨j, hj, e⟩ := P.2 q hq
      rcases (show j < 5 ∨ j = 5 ∨ j = 6 by omega) with z | z | z
      · exact absurd e (no j z)
      · rw [z] at e; exact absurd e h5
      · rw [z] at e; exact e
    refine g_iload (i := 4) rfl rfl ?_
    refine g_iconst (n := 5) rfl ?_
    refine g_icmp_ge 54 rfl rfl (fun _ => ?_) (fun hc => absurd hc (by exact fun z => z (by decide)))
    refine g_iconst (n := (-1)) rfl ?_
    refine g_ireturn (ty := .int) rfl rfl rfl ?_
    exact ⟨rfl, by rw [e6]; rfl⟩
  | succ f ih =>
    intro k hk no
    have ek := ofN_toInt (n := k) (by omega)
    have e5 : (Int32.ofInt 5).toInt = 5 := rfl
    have key := PT_own hn.1 P hq k (by omega)
    refine g_iload (i := 4) rfl rfl ?_
    refine g_iconst (n := 5) rfl ?_
    refine g_icmp_ge 54 rfl rfl (fun hc => absurd hc (by rw [i_le, ek, e5]; omega)) (fun _ => ?_)
    refine g_aload_n (i := 0) rfl rfl ?_
    refine g_getfield (v := .ref (5 + 10)) rfl F.1 (by decide) rfl ?_
    refine g_iload (i := 4) rfl rfl ?_
    refine g_laload (n := 7) (f := c.2.2.2.2.2.2) rfl F.2.2.2.2.2.2 (i_in (by omega) (by omega)) ?_
    rw [i_nat ek]
    refine g_lload_n (i := 2) rfl rfl ?_
    refine g_land rfl ?_
    refine g_lconst (n := 0) rfl ?_
    show sGo none 41 _ 41 [some (.ref 5), some (.int (Int32.ofNat q)), some (.long (Int64.ofNat 1 <<< ((Int32.ofNat q).toInt64 &&& 63))), none, some (.int (Int32.ofNat k))] [.long (Int64.ofNat 0), .long ((c.2.2.2.2.2.2 k) &&& (Int64.ofNat 1 <<< ((Int32.ofNat q).toInt64 &&& 63)))] _ _
    refine g_lcmp rfl ?_
    refine g_if_eq 48 rfl rfl (fun c_1 => ?_) (fun c_1 => ?_)
    · skip
      rw [lc_eq] at c_1
      refine g_iinc (i := 4) (L1 := [some (.ref 5), some (.int (Int32.ofNat q)), some (.long (Int64.ofNat 1 <<< ((Int32.ofNat q).toInt64 &&& 63))), none, some (.int ((Int32.ofNat k) + Int32.ofInt 1))]) rfl rfl rfl ?_
      rw [ofN_add (by omega)]
      refine g_goto 25 rfl rfl ?_
      exact ih (k + 1) (by omega) (fun j hj => by
        by_cases e : j = k
        · rw [e]; exact key.mp c_1
        · exact no j (by omega))
    · skip
      rw [lc_eq] at c_1
      refine g_iload (i := 4) rfl rfl ?_
      refine g_ireturn (ty := .int) rfl rfl rfl ?_
      have y : ow q = cdS k := Classical.byContradiction (fun z => c_1 (key.mpr z))
      exact ⟨rfl, by rw [y, cdS_lt (by omega)]⟩
theorem s_ownAt {d : Nat} {h : sHp} {c : CF} {W H : Nat} {ow : Nat → Int32} {q : Nat} (hd : 3 ≤ d) (F : FC h 5 c) (g : gdF c W H) (P : PT c.2.2.2.2.2.2 ow (W * H)) (hq : q < W * H) : sDo d 41 [.ref 5, .int (Int32.ofNat q)] h (fun r h' => h' = h ∧ r = some (.int (ow q))) := by
  have hn := gdF_n g
  have key := PT_own hn.1 P hq 5 (by decide)
  have e5 : (Int32.ofInt 5).toInt = ((5 : Nat) : Int) := rfl
  refine sDo_of1 (nL := 5) (L := [some (.ref 5), some (.int (Int32.ofNat q)), none, none, none]) (by omega) rfl rfl ?_
  refine g_aload_n (i := 0) rfl rfl ?_
  refine g_iload_n (i := 1) rfl rfl ?_
  refine g_virt1 (Qc := fun r h' => h' = h ∧ r = some (.long (Int64.ofNat 1 <<< ((Int32.ofNat q).toInt64 &&& 63)))) rfl (by decide) rfl F.1 rfl (Nat.le_of_ble_eq_true rfl) (s_only8 (by omega) F g hq) (fun r h hq9 => ?_)
  obtain ⟨rfl, rfl⟩ := hq9
  refine g_lstore_n (i := 2) (L1 := [some (.ref 5), some (.int (Int32.ofNat q)), some (.long (Int64.ofNat 1 <<< ((Int32.ofNat q).toInt64 &&& 63))), none, none]) rfl (Nat.le_of_ble_eq_true rfl) rfl ?_
  refine g_aload_n (i := 0) rfl rfl ?_
  refine g_getfield (v := .ref (5 + 10)) rfl F.1 (by decide) rfl ?_
  refine g_iconst (n := 5) rfl ?_
  refine g_laload (n := 7) (f := c.2.2.2.2.2.2) rfl F.2.2.2.2.2.2 (i_in (by rw [e5]; decide) (by rw [e5]; decide)) ?_
  rw [i_nat e5]
  refine g_lload_n (i := 2) rfl rfl ?_
  refine g_land rfl ?_
  refine g_lconst (n := 0) rfl ?_
  show sGo none 41 _ 15 [some (.ref 5), some (.int (Int32.ofNat q)), some (.long (Int64.ofNat 1 <<< ((Int32.ofNat q).toInt64 &&& 63))), none, none] [.long (Int64.ofNat 0), .long ((c.2.2.2.2.2.2 5) &&& (Int64.ofNat 1 <<< ((Int32.ofNat q).toInt64 &&& 63)))] _ _
  refine g_lcmp rfl ?_
  refine g_if_eq 22 rfl rfl (fun c_1 => ?_) (fun c_1 => ?_)
  · skip
    rw [lc_eq] at c_1
    refine g_iconst (n := 0) rfl ?_
    refine g_istore (i := 4) (L1 := [some (.ref 5), some (.int (Int32.ofNat q)), some (.long (Int64.ofNat 1 <<< ((Int32.ofNat q).toInt64 &&& 63))), none, some (.int (Int32.ofInt 0))]) rfl (Nat.le_of_ble_eq_true rfl) rfl ?_
    exact s_ownAt_go (d := d - 1) F g P hq (key.mp c_1) 5 0 (by decide) (fun j hj => absurd hj (Nat.not_lt_zero j))
  · skip
    rw [lc_eq] at c_1
    refine g_bipush (n := 9) rfl ?_
    refine g_ireturn (ty := .int) rfl rfl rfl ?_
    have y : ow q = cdS 5 := Classical.byContradiction (fun z => c_1 (key.mpr z))
    exact ⟨rfl, by rw [y]; rfl⟩
theorem s_may11 {d : Nat} {h : sHp} {c : CF} {m : MF} {s : Sg} {ow : Nat → Int32} {q k : Nat} (hd : 5 ≤ d) (F : FC h 5 c) (g : gdF c s.1 s.2.1) (r : RB c m) (sI : sgI c s) (P : PT c.2.2.2.2.2.2 ow (s.1 * s.2.1)) (hq : q < s.1 * s.2.1) (hk : k < 5) : sDo d 101 [.ref 5, .int (Int32.ofNat q), .int (Int32.ofNat k)] h (fun r h' => h' = h ∧ (chP s c.2.2.2.2.2.2 ow q k ∧ r = some (.int 1) ∨ ¬ chP s c.2.2.2.2.2.2 ow q k ∧ r = some (.int 0))) := by
  have hn := gdF_n g
  have n5 := sI.2.2.2.2.2.2.2
  have ek := ofN_toInt (n := k) (by omega)
  have hnr : ¬ ow q = Int32.ofNat k → bt (c.2.2.2.2.2.2 k) q = false := fun z => by
    rw [PT_bt hn.1 P (by omega) hq]
    exact decide_eq_false (fun y => z (y.trans (cdS_lt hk)))
  refine sDo_of1 (nL := 6) (L := [some (.ref 5), some (.int (Int32.ofNat q)), some (.int (Int32.ofNat k)), none, none, none]) (by omega) rfl rfl ?_
  refine g_aload_n (i := 0) rfl rfl ?_
  refine g_iload_n (i := 1) rfl rfl ?_
  refine g_virt1 (Qc := fun r h' => h' = h ∧ r = some (.int (ow q))) rfl (by decide) rfl F.1 rfl (Nat.le_of_ble_eq_true rfl) (s_ownAt (by omega) F g P hq) (fun r h hq9 => ?_)
  obtain ⟨rfl, rfl⟩ := hq9
  refine g_istore_n (i := 3) (L1 := [some (.ref 5), some (.int (Int32.ofNat q)), some (.int (Int32.ofNat k)), some (.int (ow q)), none, none]) rfl (Nat.le_of_ble_eq_true rfl) rfl ?_
  refine g_aload_n (i := 0) rfl rfl ?_
  refine g_aload_n (i := 0) rfl rfl ?_
  refine g_iload_n (i := 1) rfl rfl ?_
  refine g_virt1 (Qc := fun r h' => h' = h ∧ r = some (.long (Int64.ofNat 1 <<< ((Int32.ofNat q).toInt64 &&& 63)))) rfl (by decide) rfl F.1 rfl (Nat.le_of_ble_eq_true rfl) (s_only8 (by omega) F g hq) (fun r h hq9 => ?_)
  obtain ⟨rfl, rfl⟩ := hq9
  refine g_virt1 (Qc := fun r h' => h' = h ∧ r = some (.long ((Int64.ofNat 1 <<< ((Int32.ofNat q).toInt64 &&& 63)) ||| besS s.1 (s.1 * s.2.1) (Int64.ofNat 1 <<< ((Int32.ofNat q).toInt64 &&& 63))))) rfl (by decide) rfl F.1 rfl (Nat.le_of_ble_eq_true rfl) (s_withBeside (by omega) F g (inN_bit hq hn.1)) (fun r h hq9 => ?_)
  obtain ⟨rfl, rfl⟩ := hq9
  refine g_lstore (i := 4) (L1 := [some (.ref 5), some (.int (Int32.ofNat q)), some (.int (Int32.ofNat k)), some (.int (ow q)), some (.long ((Int64.ofNat 1 <<< ((Int32.ofNat q).toInt64 &&& 63)) ||| besS s.1 (s.1 * s.2.1) (Int64.ofNat 1 <<< ((Int32.ofNat q).toInt64 &&& 63)))), none]) rfl (Nat.le_of_ble_eq_true rfl) rfl ?_
  refine g_aload_n (i := 0) rfl rfl ?_
  refine g_iload_n (i := 3) rfl rfl ?_
  refine g_virt1 (Qc := fun r h' => h' = h ∧ (((0 ≤ (ow q).toInt ∧ (ow q).toInt < (s.2.2 : Int)) ∧ r = some (.int 1)) ∨ (¬ (0 ≤ (ow q).toInt ∧ (ow q).toInt < (s.2.2 : Int)) ∧ r = some (.int 0)))) rfl (by decide) rfl F.1 rfl (Nat.le_of_ble_eq_true rfl) (s_hr11 (by omega) F sI.2.2.1 n5) (fun r h hq9 => ?_)
  obtain ⟨rfl, ⟨c_1, rfl⟩ | ⟨c_1, rfl⟩⟩ := hq9
  · skip
    refine g_if_eq 48 rfl rfl (fun hc => absurd hc (by decide)) (fun _ => ?_)
    refine g_iload_n (i := 3) rfl rfl ?_
    refine g_iload_n (i := 2) rfl rfl ?_
    refine g_icmp_eq 48 rfl rfl (fun c_2 => ?_) (fun c_2 => ?_)
    · skip
      refine g_iconst (n := 0) rfl ?_
      refine g_ireturn (ty := .boolean) rfl rfl (by decide) ?_
      exact ⟨rfl, Or.inr ⟨fun z => z.1.2 c_2, rfl⟩⟩
    · skip
      refine g_aload_n (i := 0) rfl rfl ?_
      refine g_getfield (v := .ref (5 + 10)) rfl F.1 (by decide) rfl ?_
      refine g_iload_n (i := 2) rfl rfl ?_
      refine g_laload (n := 7) (f := c.2.2.2.2.2.2) rfl F.2.2.2.2.2.2 (i_in (by omega) (by omega)) ?_
      rw [i_nat ek]
      refine g_lload (i := 4) rfl rfl ?_
      refine g_land rfl ?_
      refine g_lconst (n := 0) rfl ?_
      show sGo none 101 _ 40 [some (.ref 5), some (.int (Int32.ofNat q)), some (.int (Int32.ofNat k)), some (.int (ow q)), some (.long ((Int64.ofNat 1 <<< ((Int32.ofNat q).toInt64 &&& 63)) ||| besS s.1 (s.1 * s.2.1) (Int64.ofNat 1 <<< ((Int32.ofNat q).toInt64 &&& 63)))), none] [.long (Int64.ofNat 0), .long ((c.2.2.2.2.2.2 k) &&& ((Int64.ofNat 1 <<< ((Int32.ofNat q).toInt64 &&& 63)) ||| besS s.1 (s.1 * s.2.1) (Int64.ofNat 1 <<< ((Int32.ofNat q).toInt64 &&& 63))))] _ _
      refine g_lcmp rfl ?_
      refine g_if_eq 48 rfl rfl (fun c_3 => ?_) (fun c_3 => ?_)
      · skip
        rw [lc_eq] at c_3
        refine g_iconst (n := 0) rfl ?_
        refine g_ireturn (ty := .boolean) rfl rfl (by decide) ?_
        exact ⟨rfl, Or.inr ⟨fun z => z.2 ((near_iff (by omega) (hnr c_2)).mp c_3), rfl⟩⟩
      · skip
        rw [lc_eq] at c_3
        refine g_iconst (n := 1) rfl ?_
        refine g_goto 49 rfl rfl ?_
        refine g_ireturn (ty := .boolean) rfl rfl (by decide) ?_
        exact ⟨rfl, Or.inl ⟨⟨⟨c_1, c_2⟩, fun z => c_3 ((near_iff (by omega) (hnr c_2)).mpr z)⟩, rfl⟩⟩
  · skip
    refine g_if_eq 48 rfl rfl (fun _ => ?_) (fun hc => absurd hc (by decide))
    refine g_iconst (n := 0) rfl ?_
    refine g_ireturn (ty := .boolean) rfl rfl (by decide) ?_
    exact ⟨rfl, Or.inr ⟨fun z => c_1 z.1.1, rfl⟩⟩
theorem s_start11_go {d : Nat} {h0 : sHp} {B : Nat → Int32} {S1 S2 : Int64} {S T : Nat → Int64} {p : Nat} (hp : p ≠ 41) (hS : h0[38]? = some (sO B S1 S2)) (h41 : h0[41]? = some (.inl (1, 7, .inr (.inl T)))) (hq : h0[p]? = some (.inl (1, 7, .inr (.inl S)))) : ∀ (f k : Nat), k + f = 7 → sGo none 102 d 2 [some (.ref 38), some (.ref p), some (.int (Int32.ofNat k))] [] (h0.set 41 (.inl (1, 7, .inr (.inl (cpL S T k))))) (fun r h' => r = none ∧ h' = h0.set 41 (.inl (1, 7, .inr (.inl (cpL S T 7))))) := by
  have e7 : (Int8.ofInt 7).toInt32.toInt = ((7 : Nat) : Int) := rfl
  have e7' : (Int32.ofNat 7).toInt = ((7 : Nat) : Int) := rfl
  intro f
  induction f with
  | zero =>
    intro k hk
    have k7 : k = 7 := by omega
    subst k7
    refine g_iload_n (i := 2) rfl rfl ?_
    refine g_bipush (n := 7) rfl ?_
    refine g_icmp_ge 29 rfl rfl (fun _ => ?_) (fun hc => absurd hc (by exact fun z => z (by decide)))
    refine g_return rfl rfl ?_
    exact ⟨rfl, rfl⟩
  | succ f ih =>
    intro k hk
    have ek := ofN_toInt (n := k) (by omega)
    have hS1 : (h0.set 41 (.inl (1, 7, .inr (.inl (cpL S T k)))))[38]? = some (sO B S1 S2) := by rw [s_set_ne (by decide)]; exact hS
    have h1 : (h0.set 41 (.inl (1, 7, .inr (.inl (cpL S T k)))))[41]? = some (.inl (1, 7, .inr (.inl (cpL S T k)))) := s_set_eq h41
    have hq1 : (h0.set 41 (.inl (1, 7, .inr (.inl (cpL S T k)))))[p]? = some (.inl (1, 7, .inr (.inl S))) := by rw [s_set_ne (Ne.symm hp)]; exact hq
    refine g_iload_n (i := 2) rfl rfl ?_
    refine g_bipush (n := 7) rfl ?_
    refine g_icmp_ge 29 rfl rfl (fun hc => absurd hc (by rw [i_le, e7, ek]; omega)) (fun _ => ?_)
    refine g_iload_n (i := 2) rfl rfl ?_
    refine g_aload_n (i := 1) rfl rfl ?_
    refine g_alen rfl hq1 (by decide) ?_
    refine g_icmp_ge 29 rfl rfl (fun hc => absurd hc (by rw [i_le, e7', ek]; omega)) (fun _ => ?_)
    refine g_aload_n (i := 0) rfl rfl ?_
    refine g_getfield (v := .ref 41) rfl hS1 (by decide) rfl ?_
    refine g_iload_n (i := 2) rfl rfl ?_
    refine g_aload_n (i := 1) rfl rfl ?_
    refine g_iload_n (i := 2) rfl rfl ?_
    refine g_laload (n := 7) (f := S) rfl hq1 (i_in (by omega) (by omega)) ?_
    rw [i_nat ek]
    refine g_lastore (n := 7) (f := cpL S T k) (h1 := h0.set 41 (.inl (1, 7, .inr (.inl (cpL S T (k + 1)))))) rfl h1 (i_in (by omega) (by omega)) (by rw [i_nat ek, List.set_set, cpL_s]) ?_
    refine g_iinc (i := 2) (L1 := [some (.ref 38), some (.ref p), some (.int ((Int32.ofNat k) + Int32.ofInt 1))]) rfl rfl rfl ?_
    rw [ofN_add (by omega)]
    refine g_goto 2 rfl rfl ?_
    exact ih (k + 1) (by omega)
theorem s_start11 {d : Nat} {h0 : sHp} {B : Nat → Int32} {S1 S2 : Int64} {S T : Nat → Int64} {p : Nat} (hd : 1 ≤ d) (hp : p ≠ 41) (hS : h0[38]? = some (sO B S1 S2)) (h41 : h0[41]? = some (.inl (1, 7, .inr (.inl T)))) (hq : h0[p]? = some (.inl (1, 7, .inr (.inl S)))) : sDo d 102 [.ref 38, .ref p] h0 (fun r h' => r = none ∧ h' = h0.set 41 (.inl (1, 7, .inr (.inl (cpL S T 7))))) := by
  refine sDo_of1 (nL := 3) (L := [some (.ref 38), some (.ref p), none]) (by omega) rfl rfl ?_
  have e0 : h0 = h0.set 41 (.inl (1, 7, .inr (.inl (cpL S T 0)))) := List.ext_getElem? (fun i => by
    by_cases e : i = 41
    · rw [e, s_set_eq h41, h41, cpL_0]
    · rw [s_set_ne (Ne.symm e)])
  refine g_iconst (n := 0) rfl ?_
  refine g_istore_n (i := 2) (L1 := [some (.ref 38), some (.ref p), some (.int (Int32.ofInt 0))]) rfl (Nat.le_of_ble_eq_true rfl) rfl ?_
  have key := s_start11_go (d := d - 1) hp hS h41 hq 7 0 (by decide)
  rw [← e0] at key
  exact key
def btV (h0 h : sHp) (c : CF) (s : Sg) (S1 S2 : Int64) (B : Nat → Int32) (T : Nat → Int64) (t : T3) : Prop := FC h 5 c ∧ h[38]? = some (sO B S1 S2) ∧ bsC B t ∧ t.2 ≤ 1000 ∧ cdB (s.1 * s.2.1) s.2.2 t ∧ h[41]? = some (.inl (1, 7, .inr (.inl T))) ∧ tcE h0 h
theorem PT_chg {S T : Nat → Int64} {ow : Nat → Int32} {n q k : Nat} (hn : n ≤ 64) (P : PT S ow n) (hq : q < n) (hk : k < 5) : PT (giveS (cpL S T 7) 7 (Int64.ofNat 1 <<< ((Int32.ofNat q).toInt64 &&& 63)) k) (owC ow q k) n := by
  refine PT_give (P := fun z => decide (z = q)) hn (by omega) (bt_ext (fun i hi => ?_)) (fun z _ => ?_) (PT_ext (S' := cpL S T 7) (ow' := ow) hn (fun j hj => if_pos hj) (fun _ _ => rfl) P)
  · rw [bt_one (by omega), bt_stO _ _ hn]
    by_cases e : i = q
    · rw [e, decide_eq_true rfl, decide_eq_true hq]; rfl
    · rw [decide_eq_false e, Bool.and_false]
  · unfold owC
    by_cases e : z = q
    · rw [if_pos e, if_pos (decide_eq_true e), cdS_lt hk]
    · rw [if_neg e, if_neg (fun y => e (of_decide_eq_true y))]
theorem s_chg_in {d : Nat} {h0 : sHp} {c : CF} {m : MF} {s : Sg} {ow : Nat → Int32} {S1 S2 : Int64} {q : Nat} {fin : T3} {Q : Option Value → sHp → Prop} (hd : 8 ≤ d) (g : gdF c s.1 s.2.1) (r : RB c m) (sI : sgI c s) (P : PT c.2.2.2.2.2.2 ow (s.1 * s.2.1)) (hq : q < s.1 * s.2.1) (hQ : ∀ (B : Nat → Int32) (T : Nat → Int64) (h : sHp) (o3 : Option Value), btV h0 h c s S1 S2 B T fin → sGo none 100 d 85 [some (.ref 38), some (.ref 5), some (.int (Int32.ofNat q)), o3] [] h Q) : ∀ (f k : Nat) (t : T3) (B : Nat → Int32) (T : Nat → Int64) (h : sHp), k + f = s.2.2 → btV h0 h c s S1 S2 B T t → btI m s c.2.2.2.2.2.2 ow q f k t = fin → sGo none 100 d 24 [some (.ref 38), some (.ref 5), some (.int (Int32.ofNat q)), some (.int (Int32.ofNat k))] [] h Q := by
  have hn := gdF_n g
  have n5 := sI.2.2.2.2.2.2.2
  have e11 : (c.1 11).toInt = ((s.2.2 : Nat) : Int) := by rw [sI.2.2.1]; exact ofN_toInt (by omega)
  have eq := ofN_toInt (n := q) (by omega)
  have e5 : (Int32.ofInt 5).toInt = 5 := rfl
  intro f
  induction f with
  | zero =>
    intro k t B T h hk V hf
    have hf : t = fin := hf
    subst hf
    have V' := V
    obtain ⟨F, hS, b, ht, hc, h41, E⟩ := V
    have ek := ofN_toInt (n := k) (by omega)
    refine g_iload_n (i := 3) rfl rfl ?_
    refine g_aload_n (i := 1) rfl rfl ?_
    refine g_getfield (v := .int (c.1 11)) rfl F.1 (by decide) rfl ?_
    refine g_icmp_ge 85 rfl rfl (fun _ => ?_) (fun hc => absurd hc (by rw [i_le, e11, ek]; omega))
    exact hQ _ _ _ _ V'
  | succ f ih =>
    intro k t B T h hk V hf
    have V' := V
    obtain ⟨F, hS, b, ht, hc, h41, E⟩ := V
    have ek := ofN_toInt (n := k) (by omega)
    have hk5 : k < s.2.2 := by omega
    refine g_iload_n (i := 3) rfl rfl ?_
    refine g_aload_n (i := 1) rfl rfl ?_
    refine g_getfield (v := .int (c.1 11)) rfl F.1 (by decide) rfl ?_
    refine g_icmp_ge 85 rfl rfl (fun hc => absurd hc (by rw [i_le, e11, ek]; omega)) (fun _ => ?_)
    refine g_iload_n (i := 3) rfl rfl ?_
    refine g_iconst (n := 5) rfl ?_
    refine g_icmp_ge 85 rfl rfl (fun hc => absurd hc (by rw [i_le, ek, e5]; omega)) (fun _ => ?_)
    refine g_aload_n (i := 1) rfl rfl ?_
    refine g_iload_n (i := 2) rfl rfl ?_
    refine g_iload_n (i := 3) rfl rfl ?_
    refine g_static3 (Qc := fun r h' => h' = h ∧ (((chP s c.2.2.2.2.2.2 ow q k) ∧ r = some (.int 1)) ∨ (¬ (chP s c.2.2.2.2.2.2 ow q k) ∧ r = some (.int 0)))) rfl (by decide) rfl (Nat.le_of_ble_eq_true rfl) (s_may11 (by omega) F g r sI P hq (by omega)) (fun r h hq9 => ?_)
    obtain ⟨rfl, ⟨c_1, rfl⟩ | ⟨c_1, rfl⟩⟩ := hq9
    · skip
      have hf : btI m s c.2.2.2.2.2.2 ow q f (k + 1) (btS m s c.2.2.2.2.2.2 ow q k t) = fin := hf
      rw [btS_y c_1] at hf
      refine g_if_eq 79 rfl rfl (fun hc => absurd hc (by decide)) (fun _ => ?_)
      refine g_aload_n (i := 0) rfl rfl ?_
      refine g_aload_n (i := 1) rfl rfl ?_
      refine g_getfield (v := .ref (5 + 10)) rfl F.1 (by decide) rfl ?_
      refine g_virt1 rfl (by decide) rfl hS rfl (Nat.le_of_ble_eq_true rfl) (s_start11 (d := d) (by omega) (by decide) hS h41 F.2.2.2.2.2.2) (fun r1 ha hq => ?_)
      obtain ⟨rfl, rfl⟩ := hq
      have FA := FC_out (q := 41) (x := (.inl (1, 7, .inr (.inl (cpL c.2.2.2.2.2.2 T 7))))) F (by omega)
      have SA : (h.set 41 (.inl (1, 7, .inr (.inl (cpL c.2.2.2.2.2.2 T 7)))))[38]? = some (sO B S1 S2) := by rw [s_set_ne (by decide)]; exact hS
      have TA : (h.set 41 (.inl (1, 7, .inr (.inl (cpL c.2.2.2.2.2.2 T 7)))))[41]? = some (.inl (1, 7, .inr (.inl (cpL c.2.2.2.2.2.2 T 7)))) := s_set_eq h41
      refine g_aload_n (i := 0) rfl rfl ?_
      refine g_getfield (v := .ref 41) rfl SA (by decide) rfl ?_
      refine g_aload_n (i := 1) rfl rfl ?_
      refine g_iload_n (i := 2) rfl rfl ?_
      refine g_virt1 rfl (by decide) rfl FA.1 rfl (Nat.le_of_ble_eq_true rfl) (s_only8 (d := d) (by omega) FA g hq) (fun r9 h9 hq9 => ?_)
      obtain ⟨rfl, rfl⟩ := hq9
      refine g_iload_n (i := 3) rfl rfl ?_
      refine g_static3 (Qc := fun r h' => r = none ∧ h' = (h.set 41 (.inl (1, 7, .inr (.inl (cpL c.2.2.2.2.2.2 T 7))))).set 41 (.inl (1, 7, .inr (.inl (giveS (cpL c.2.2.2.2.2.2 T 7) 7 (Int64.ofNat 1 <<< ((Int32.ofNat q).toInt64 &&& 63)) k))))) rfl (by decide) rfl (Nat.le_of_ble_eq_true rfl) (by rw [show d = (d - 1) + 1 by omega]; exact s_give (d := d - 1) TA (by decide) ek (by omega)) (fun r2 hb hq => ?_)
      obtain ⟨rfl, rfl⟩ := hq
      rw [List.set_set]
      have FB := FC_out (q := 41) (x := (.inl (1, 7, .inr (.inl (giveS (cpL c.2.2.2.2.2.2 T 7) 7 (Int64.ofNat 1 <<< ((Int32.ofNat q).toInt64 &&& 63)) k))))) F (by omega)
      have SB : (h.set 41 (.inl (1, 7, .inr (.inl (giveS (cpL c.2.2.2.2.2.2 T 7) 7 (Int64.ofNat 1 <<< ((Int32.ofNat q).toInt64 &&& 63)) k)))))[38]? = some (sO B S1 S2) := by rw [s_set_ne (by decide)]; exact hS
      have TB : (h.set 41 (.inl (1, 7, .inr (.inl (giveS (cpL c.2.2.2.2.2.2 T 7) 7 (Int64.ofNat 1 <<< ((Int32.ofNat q).toInt64 &&& 63)) k)))))[41]? = some (.inl (1, 7, .inr (.inl (giveS (cpL c.2.2.2.2.2.2 T 7) 7 (Int64.ofNat 1 <<< ((Int32.ofNat q).toInt64 &&& 63)) k)))) := s_set_eq h41
      have PB := PT_chg (T := T) hn.1 P hq (show k < 5 by omega)
      refine g_aload_n (i := 0) rfl rfl ?_
      refine g_aload_n (i := 1) rfl rfl ?_
      refine g_bipush (n := 10) rfl ?_
      refine g_iload_n (i := 2) rfl rfl ?_
      refine g_imul rfl ?_
      refine g_iload_n (i := 3) rfl rfl ?_
      refine g_iadd rfl ?_
      refine g_iconst (n := 0) rfl ?_
      have ecx : (((Int8.ofInt 10).toInt32 * (Int32.ofNat q)) + (Int32.ofNat k)) = Int32.ofNat (10 * q + k) := by
        have et : (Int8.ofInt 10).toInt32.toInt = ((10 : Nat) : Int) := rfl
        have em : ((Int8.ofInt 10).toInt32 * Int32.ofNat q).toInt = ((10 * q : Nat) : Int) := n_mul et eq (by omega)
        refine Int32.toInt_inj.mp ?_
        rw [i_add (by rw [em, ek]; omega) (by rw [em, ek]; omega), em, ek, ofN_toInt (by omega)]
        omega
      refine g_virt3 rfl (by decide) rfl SB rfl (Nat.le_of_ble_eq_true rfl) (s_try11 (d := d) (C := 10 * q + k) (C2 := 0) (t := t) (m := m) (by omega) FB g r sI SB TB PB ht b ecx rfl) (fun r3 h2 hq => ?_)
      obtain ⟨rfl, B2, hS2, b62, b2, E2⟩ := hq
      rw [vdA_PT n5 PB] at b2
      have b2 : bsC B2 (trS m s (10 * q + k) 0 (owC ow q k) t) := b2
      have V2 : btV h0 h2 c s S1 S2 B2 (giveS (cpL c.2.2.2.2.2.2 T 7) 7 (Int64.ofNat 1 <<< ((Int32.ofNat q).toInt64 &&& 63)) k) (trS m s (10 * q + k) 0 (owC ow q k) t) := ⟨FC_tr FB (fun q x h1 h2 hx => (E2.2 q (by omega)).trans hx), hS2, b2, trS_le ht, by rw [← btS_y c_1]; exact cdB_S hc hq hk5, (E2.2 41 (by decide)).trans TB, tcE_38 (tcE_set (x := (.inl (1, 7, .inr (.inl (giveS (cpL c.2.2.2.2.2.2 T 7) 7 (Int64.ofNat 1 <<< ((Int32.ofNat q).toInt64 &&& 63)) k))))) E (by decide)) E2⟩
      show sGo none 100 _ 79 [some (.ref 38), some (.ref 5), some (.int (Int32.ofNat q)), some (.int (Int32.ofNat k))] [] _ _
      refine g_iinc (i := 3) (L1 := [some (.ref 38), some (.ref 5), some (.int (Int32.ofNat q)), some (.int ((Int32.ofNat k) + Int32.ofInt 1))]) rfl rfl rfl ?_
      rw [ofN_add (by omega)]
      refine g_goto 24 rfl rfl ?_
      exact ih (k + 1) _ B2 _ h2 (by omega) V2 hf
    · skip
      have hf : btI m s c.2.2.2.2.2.2 ow q f (k + 1) (btS m s c.2.2.2.2.2.2 ow q k t) = fin := hf
      rw [btS_n c_1] at hf
      refine g_if_eq 79 rfl rfl (fun _ => ?_) (fun hc => absurd hc (by decide))
      refine g_iinc (i := 3) (L1 := [some (.ref 38), some (.ref 5), some (.int (Int32.ofNat q)), some (.int ((Int32.ofNat k) + Int32.ofInt 1))]) rfl rfl rfl ?_
      rw [ofN_add (by omega)]
      refine g_goto 24 rfl rfl ?_
      exact ih (k + 1) _ B T h (by omega) V' hf
theorem s_chg_go {d : Nat} {h0 : sHp} {c : CF} {m : MF} {s : Sg} {ow : Nat → Int32} {S1 S2 : Int64} (hd : 8 ≤ d) (g : gdF c s.1 s.2.1) (r : RB c m) (sI : sgI c s) (P : PT c.2.2.2.2.2.2 ow (s.1 * s.2.1)) : ∀ (f q : Nat) (t : T3) (B : Nat → Int32) (T : Nat → Int64) (h : sHp) (o3 : Option Value), q + f = s.1 * s.2.1 → btV h0 h c s S1 S2 B T t → sGo none 100 d 14 [some (.ref 38), some (.ref 5), some (.int (Int32.ofNat q)), o3] [] h (fun rv h' => rv = some (.int (cdT (btL m s c.2.2.2.2.2.2 ow f q t))) ∧ tcE h0 h' ∧ ∃ B' T', h'[38]? = some (sO B' S1 S2) ∧ h'[41]? = some (.inl (1, 7, .inr (.inl T')))) := by
  have hn := gdF_n g
  have n5 := sI.2.2.2.2.2.2.2
  have ew : (c.1 0 * c.1 1).toInt = ((s.1 * s.2.1 : Nat) : Int) := by
    obtain ⟨g0, g1, w2, w8, h2, h8, -⟩ := g
    exact n_mul (by rw [g0]; exact ofN_toInt (by omega)) (by rw [g1]; exact ofN_toInt (by omega)) (by omega)
  intro f
  induction f with
  | zero =>
    intro q t B T h o3 hk V
    obtain ⟨F, hS, b, ht, hc, h41, E⟩ := V
    have eq := ofN_toInt (n := q) (by omega)
    refine g_iload_n (i := 2) rfl rfl ?_
    refine g_aload_n (i := 1) rfl rfl ?_
    refine g_virt0 (Qc := fun r h' => h' = h ∧ r = some (.int (c.1 0 * c.1 1))) rfl (by decide) rfl F.1 rfl (Nat.le_of_ble_eq_true rfl) (by rw [show d = (d - 1) + 1 by omega]; exact s_squares (d := d - 1) F) (fun r9 h hq9 => ?_)
    obtain ⟨rfl, rfl⟩ := hq9
    refine g_icmp_ge 91 rfl rfl (fun _ => ?_) (fun hc => absurd hc (by rw [i_le, ew, eq]; omega))
    refine g_aload_n (i := 0) rfl rfl ?_
    refine g_getfield (v := .int (B 0)) rfl hS (by decide) rfl ?_
    refine g_ireturn (ty := .int) rfl rfl rfl ?_
    exact ⟨by rw [bsC_T b]; rfl, E, B, T, hS, h41⟩
  | succ f ih =>
    intro q t B T h o3 hk V
    have V' := V
    obtain ⟨F, hS, b, ht, hc, h41, E⟩ := V
    have eq := ofN_toInt (n := q) (by omega)
    refine g_iload_n (i := 2) rfl rfl ?_
    refine g_aload_n (i := 1) rfl rfl ?_
    refine g_virt0 (Qc := fun r h' => h' = h ∧ r = some (.int (c.1 0 * c.1 1))) rfl (by decide) rfl F.1 rfl (Nat.le_of_ble_eq_true rfl) (by rw [show d = (d - 1) + 1 by omega]; exact s_squares (d := d - 1) F) (fun r9 h hq9 => ?_)
    obtain ⟨rfl, rfl⟩ := hq9
    refine g_icmp_ge 91 rfl rfl (fun hc => absurd hc (by rw [i_le, ew, eq]; omega)) (fun _ => ?_)
    refine g_iconst (n := 0) rfl ?_
    refine g_istore_n (i := 3) (L1 := [some (.ref 38), some (.ref 5), some (.int (Int32.ofNat q)), some (.int (Int32.ofInt 0))]) rfl (Nat.le_of_ble_eq_true rfl) rfl ?_
    refine s_chg_in (d := d) (h0 := h0) (q := q) (fin := btI m s c.2.2.2.2.2.2 ow q s.2.2 0 t) hd g r sI P (by omega) (fun B2 T2 h2 o4 V2 => ?_) s.2.2 0 t B T h (Nat.zero_add _) V' rfl
    refine g_iinc (i := 2) (L1 := [some (.ref 38), some (.ref 5), some (.int ((Int32.ofNat q) + Int32.ofInt 1)), o4]) rfl rfl rfl ?_
    rw [ofN_add (by omega)]
    refine g_goto 14 rfl rfl ?_
    exact ih (q + 1) _ B2 T2 h2 o4 (by omega) V2
theorem ST_btL {m : MF} {s : Sg} {S : Nat → Int64} {ow : Nat → Int32} (hN : s.2.2 ≤ 5) (P : PT S ow (s.1 * s.2.1)) : ∀ (f q : Nat) (t : T3), btL m s S ow f q t = btL m s (ST ow (s.1 * s.2.1)) ow f q t := by
  have e1 : ∀ (q k : Nat) (t : T3), k < 5 → btS m s S ow q k t = btS m s (ST ow (s.1 * s.2.1)) ow q k t := fun q k t hk => by
    have e : chP s S ow q k ↔ chP s (ST ow (s.1 * s.2.1)) ow q k := by
      unfold chP
      rw [P.1 k (by omega)]
      exact Iff.rfl
    by_cases z : chP s S ow q k
    · rw [btS_y z, btS_y (e.mp z)]
    · rw [btS_n z, btS_n (fun y => z (e.mpr y))]
  have e2 : ∀ (q f k : Nat) (t : T3), k + f ≤ 5 → btI m s S ow q f k t = btI m s (ST ow (s.1 * s.2.1)) ow q f k t := by
    intro q f
    induction f with
    | zero => intro k t _; rfl
    | succ f ih =>
      intro k t hk
      show btI m s S ow q f (k + 1) (btS m s S ow q k t) = btI m s (ST ow (s.1 * s.2.1)) ow q f (k + 1) (btS m s (ST ow (s.1 * s.2.1)) ow q k t)
      rw [e1 q k t (by omega), ih (k + 1) _ (by omega)]
  intro f
  induction f with
  | zero => intro q t; rfl
  | succ f ih =>
    intro q t
    show btL m s S ow f (q + 1) (btI m s S ow q s.2.2 0 t) = btL m s (ST ow (s.1 * s.2.1)) ow f (q + 1) (btI m s (ST ow (s.1 * s.2.1)) ow q s.2.2 0 t)
    rw [e2 q s.2.2 0 t (by omega), ih]
theorem s_change11 {d : Nat} {h : sHp} {c : CF} {m : MF} {s : Sg} {ow : Nat → Int32} {B : Nat → Int32} {S1 S2 : Int64} {T : Nat → Int64} (hd : 9 ≤ d) (F : FC h 5 c) (g : gdF c s.1 s.2.1) (r : RB c m) (sI : sgI c s) (P : PT c.2.2.2.2.2.2 ow (s.1 * s.2.1)) (hS : h[38]? = some (sO B S1 S2)) (h41 : h[41]? = some (.inl (1, 7, .inr (.inl T)))) : sDo d 100 [.ref 38, .ref 5] h (fun rv h' => rv = some (.int (cdT (btA m s ow))) ∧ tcE h h' ∧ ∃ B' T', h'[38]? = some (sO B' S1 S2) ∧ h'[41]? = some (.inl (1, 7, .inr (.inl T')))) := by
  have hn := gdF_n g
  have n5 := sI.2.2.2.2.2.2.2
  have hle := hdN_le (W := s.1) (n := (s.1 * s.2.1)) (ow := ow) (s.1 * s.2.1)
  unfold btA
  rw [← ST_btL n5 P]
  refine sDo_of1 (nL := 4) (L := [some (.ref 38), some (.ref 5), none, none]) (by omega) rfl rfl ?_
  refine g_aload_n (i := 0) rfl rfl ?_
  refine g_aload_n (i := 1) rfl rfl ?_
  refine g_aload_n (i := 1) rfl rfl ?_
  refine g_getfield (v := .ref (5 + 10)) rfl F.1 (by decide) rfl ?_
  refine g_virt1 rfl (by decide) rfl F.1 rfl (Nat.le_of_ble_eq_true rfl) (s_hedge11 (d := d - 1) (by omega) F g F.2.2.2.2.2.2 P) (fun r9 h hq9 => ?_)
  obtain ⟨rfl, rfl⟩ := hq9
  refine g_virt1 rfl (by decide) rfl hS rfl (Nat.le_of_ble_eq_true rfl) (s_forget (d := d - 1) (x := Int32.ofNat (hdN s.1 (s.1 * s.2.1) ow (s.1 * s.2.1))) (by omega) hS) (fun r h1 hq => ?_)
  obtain ⟨rfl, rfl⟩ := hq
  have V : btV h (h.set 38 (sO (upd (upd (upd B 0 (Int32.ofInt (-1))) 4 (Int32.ofInt 0)) 5 (Int32.ofNat (hdN s.1 (s.1 * s.2.1) ow (s.1 * s.2.1)))) S1 S2)) c s S1 S2 (upd (upd (upd B 0 (Int32.ofInt (-1))) 4 (Int32.ofInt 0)) 5 (Int32.ofNat (hdN s.1 (s.1 * s.2.1) ow (s.1 * s.2.1)))) T (none, (hdN s.1 (s.1 * s.2.1) ow (s.1 * s.2.1))) := ⟨FC_out (q := 38) F (by omega), s_set_eq hS, ⟨(u_ne (by decide)).trans ((u_ne (by decide)).trans u_at), u_at⟩, by show (hdN s.1 (s.1 * s.2.1) ow (s.1 * s.2.1)) ≤ 1000; omega, (fun _ _ z => by cases z), by rw [s_set_ne (by decide)]; exact h41, tcE_set tcE_rfl (by decide)⟩
  refine g_iconst (n := 0) rfl ?_
  refine g_istore_n (i := 2) (L1 := [some (.ref 38), some (.ref 5), some (.int (Int32.ofInt 0)), none]) rfl (Nat.le_of_ble_eq_true rfl) rfl ?_
  exact s_chg_go (d := d - 1) (by omega) g r sI P (s.1 * s.2.1) 0 _ _ T _ _ (Nat.zero_add _) V
end
section
/-! ===== a change for less hedge, the reference ===== -/
theorem btI_no {m : MF} {s : Sg} {S : Nat → Int64} {ow : Nat → Int32} {q : Nat} (h : ∀ k, ¬ chP s S ow q k) : ∀ (f k : Nat) (t : T3), btI m s S ow q f k t = t := by
  intro f
  induction f with
  | zero => intro k t; rfl
  | succ f ih =>
    intro k t
    show btI m s S ow q f (k + 1) (btS m s S ow q k t) = t
    rw [btS_n (h k), ih]
theorem upd_back {ow : Nat → Int32} {q : Nat} {v : Int32} : upd (upd ow q v) q (ow q) = ow := funext fun z => by
  by_cases e : z = q
  · rw [e, u_at]
  · rw [u_ne e, u_ne e]
theorem owC_u {ow : Nat → Int32} {q k : Nat} : upd ow q (Int32.ofNat k) = owC ow q k := funext fun z => by
  unfold owC
  by_cases e : z = q
  · rw [e, u_at, if_pos rfl]
  · rw [u_ne e, if_neg e]
theorem s_btd_in {d : Nat} {hb : sHp} {c : CF} {m : MF} {s : Sg} {Jb ow : Nat → Int32} {hv : Int32} {q : Nat} {fin : T3} {Q : Option Value → sHp → Prop} (hd : 5 ≤ d) (M : MC hb (mo m Jb ow)) (hb7 : ∀ j, j < 7 → Jb j = m.1 j) (gM : gdM m.1 s.1 s.2.1) (g : gdF c s.1 s.2.1) (r : RB c m) (sI : sgI c s) (sJ : sgJ m.1 s) (ho : ∀ q, q < s.1 * s.2.1 → ∃ k, k < 7 ∧ ow q = cdS k) (hq : q < s.1 * s.2.1) (hown : 0 ≤ (ow q).toInt ∧ (ow q).toInt < (s.2.2 : Int)) (hQ : ∀ (J : Nat → Int32) (h : sHp) (o8 o9 : Option Value), rX hb h J ow → jE Jb J → sGo none 240 d 148 [some (.ref 60), some (.int hv), some (.int (cdT fin)), some (.int (Int32.ofNat fin.2)), some (.int (Int32.ofNat q)), some (.int (ow q)), some (.long (besS s.1 (s.1 * s.2.1) (Int64.ofNat 1 <<< ((Int32.ofNat q).toInt64 &&& 63)))), none, o8, o9] [] h Q) : ∀ (f k : Nat) (t : T3) (J : Nat → Int32) (h : sHp) (o9 : Option Value), k + f = s.2.2 → rX hb h J ow → jE Jb J → t.2 ≤ 1000 → btI m s (ST ow (s.1 * s.2.1)) ow q f k t = fin → sGo none 240 d 60 [some (.ref 60), some (.int hv), some (.int (cdT t)), some (.int (Int32.ofNat t.2)), some (.int (Int32.ofNat q)), some (.int (ow q)), some (.long (besS s.1 (s.1 * s.2.1) (Int64.ofNat 1 <<< ((Int32.ofNat q).toInt64 &&& 63)))), none, some (.int (Int32.ofNat k)), o9] [] h Q := by
  have hn := gdF_n g
  have n5 := sI.2.2.2.2.2.2.2
  have gd := gM
  obtain ⟨-, -, w2, w8, -, h8⟩ := gd
  have eq := ofN_toInt (n := q) (by omega)
  have P0 : PT (ST ow (s.1 * s.2.1)) ow (s.1 * s.2.1) := PT_ST ho
  intro f
  induction f with
  | zero =>
    intro k t J h o9 hk X hJ ht hf
    have hf : t = fin := hf
    subst hf
    have hr := X.1
    have hj7 : ∀ j, j < 7 → J j = m.1 j := fun j hj => (hJ j (by omega) (by omega) (by omega) (by omega)).trans (hb7 j hj)
    have ek := ofN_toInt (n := k) (by omega)
    have e6 : (J 6).toInt = ((s.2.2 : Nat) : Int) := by rw [hj7 6 (by decide), sJ.2.2.1]; exact ofN_toInt (by omega)
    refine g_iload (i := 8) rfl rfl ?_
    refine g_aload_n (i := 0) rfl rfl ?_
    refine g_getfield (v := .int (J 6)) rfl hr (by decide) rfl ?_
    refine g_icmp_ge 148 rfl rfl (fun _ => ?_) (fun hc => absurd hc (by rw [i_le, e6, ek]; omega))
    exact hQ _ _ _ _ X hJ
  | succ f ih =>
    intro k t J h o9 hk X hJ ht hf
    have hr := X.1
    have hj7 : ∀ j, j < 7 → J j = m.1 j := fun j hj => (hJ j (by omega) (by omega) (by omega) (by omega)).trans (hb7 j hj)
    have ek := ofN_toInt (n := k) (by omega)
    have e6 : (J 6).toInt = ((s.2.2 : Nat) : Int) := by rw [hj7 6 (by decide), sJ.2.2.1]; exact ofN_toInt (by omega)
    have M1 := rX_MC (m := mo m Jb ow) X M
    have g1 : gdM J s.1 s.2.1 := ⟨(hj7 0 (by decide)).trans gM.1, (hj7 1 (by decide)).trans gM.2.1, gM.2.2⟩
    have XA := rX_ow (ow' := upd ow q (Int32.ofNat k)) X
    have MA : MC (h.set 63 (.inl (0, 64, .inl (upd ow q (Int32.ofNat k))))) (mo m J (upd ow q (Int32.ofNat k))) := rX_MC (m := mo m Jb ow) XA M
    have et := ofC_toInt (n := t.2) (by omega)
    have hle := hdN_le (W := s.1) (n := (s.1 * s.2.1)) (ow := (owC ow q k)) (s.1 * s.2.1)
    have eh := ofN_toInt (n := (hdN s.1 (s.1 * s.2.1) (owC ow q k) (s.1 * s.2.1))) (by omega)
    have hin : ∀ z, z < s.1 * s.2.1 → ∃ j, j < 7 ∧ (owC ow q k) z = cdS j := fun z hz => by
      unfold owC
      by_cases e : z = q
      · rw [if_pos e]; exact ⟨k, by omega, (cdS_lt (by omega)).symm⟩
      · rw [if_neg e]; exact ho z hz
    have PA : PT (ST (owC ow q k) (s.1 * s.2.1)) (mo m J (upd ow q (Int32.ofNat k))).2.2.1 (s.1 * s.2.1) := by
      show PT _ (upd ow q (Int32.ofNat k)) _
      rw [owC_u]
      exact PT_ST hin
    have hv0 := fcI_0 (m := mo m J (upd ow q (Int32.ofNat k))) (S := ST (owC ow q k) (s.1 * s.2.1)) n5
    have ev : vdA (mo m J (upd ow q (Int32.ofNat k))) s (ST (owC ow q k) (s.1 * s.2.1)) = (vdA m s (ST (owC ow q k) (s.1 * s.2.1))) := (vdA_J (m := (m.1, m.2.1, upd ow q (Int32.ofNat k), m.2.2.2)) hj7).trans vdA_ow
    have hf : btI m s (ST ow (s.1 * s.2.1)) ow q f (k + 1) (btS m s (ST ow (s.1 * s.2.1)) ow q k t) = fin := hf
    have ecx : (Int8.ofInt 10).toInt32 * Int32.ofNat q + Int32.ofNat k = Int32.ofNat (10 * q + k) := by
      have et : (Int8.ofInt 10).toInt32.toInt = ((10 : Nat) : Int) := rfl
      have em : ((Int8.ofInt 10).toInt32 * Int32.ofNat q).toInt = ((10 * q : Nat) : Int) := n_mul et eq (by omega)
      refine Int32.toInt_inj.mp ?_
      rw [i_add (by rw [em, ek]; omega) (by rw [em, ek]; omega), em, ek, ofN_toInt (by omega)]
      omega
    refine g_iload (i := 8) rfl rfl ?_
    refine g_aload_n (i := 0) rfl rfl ?_
    refine g_getfield (v := .int (J 6)) rfl hr (by decide) rfl ?_
    refine g_icmp_ge 148 rfl rfl (fun hc => absurd hc (by rw [i_le, e6, ek]; omega)) (fun _ => ?_)
    refine g_iload (i := 8) rfl rfl ?_
    refine g_iload (i := 5) rfl rfl ?_
    refine g_icmp_eq 142 rfl rfl (fun c_1 => ?_) (fun c_1 => ?_)
    · skip
      refine g_iinc (i := 8) (L1 := [some (.ref 60), some (.int hv), some (.int (cdT t)), some (.int (Int32.ofNat t.2)), some (.int (Int32.ofNat q)), some (.int (ow q)), some (.long (besS s.1 (s.1 * s.2.1) (Int64.ofNat 1 <<< ((Int32.ofNat q).toInt64 &&& 63)))), none, some (.int (Int32.ofNat k + Int32.ofInt 1)), o9]) rfl rfl rfl ?_
      rw [ofN_add (by omega)]
      refine g_goto 60 rfl rfl ?_
      rw [btS_n (fun z => z.1.2 c_1.symm)] at hf
      exact ih (k + 1) t J h o9 (by omega) X hJ ht hf
    · skip
      refine g_aload_n (i := 0) rfl rfl ?_
      refine g_iload (i := 8) rfl rfl ?_
      refine g_virt1 (Qc := fun r h' => h' = h ∧ r = some (.long ((ST ow (s.1 * s.2.1)) k))) rfl (by decide) rfl hr rfl (Nat.le_of_ble_eq_true rfl) (s_pc12 (k := k) (by omega) M1 g1 (show PT (ST ow (s.1 * s.2.1)) (mo m J ow).2.2.1 (s.1 * s.2.1) from P0) (by omega) (cdS_lt (by omega)).symm) (fun r h hq9 => ?_)
      obtain ⟨rfl, rfl⟩ := hq9
      refine g_lload (i := 6) rfl rfl ?_
      refine g_land rfl ?_
      refine g_lconst (n := 0) rfl ?_
      show sGo none 240 _ 86 [some (.ref 60), some (.int hv), some (.int (cdT t)), some (.int (Int32.ofNat t.2)), some (.int (Int32.ofNat q)), some (.int (ow q)), some (.long (besS s.1 (s.1 * s.2.1) (Int64.ofNat 1 <<< ((Int32.ofNat q).toInt64 &&& 63)))), none, some (.int (Int32.ofNat k)), o9] [.long (Int64.ofNat 0), .long (((ST ow (s.1 * s.2.1)) k) &&& (besS s.1 (s.1 * s.2.1) (Int64.ofNat 1 <<< ((Int32.ofNat q).toInt64 &&& 63))))] _ _
      refine g_lcmp rfl ?_
      refine g_if_ne 93 rfl rfl (fun c_2 => ?_) (fun c_2 => ?_)
      · skip
        rw [lc_eq] at c_2
        refine g_aload_n (i := 0) rfl rfl ?_
        refine g_getfield (v := .ref 63) rfl hr (by decide) rfl ?_
        refine g_iload (i := 4) rfl rfl ?_
        refine g_iload (i := 8) rfl rfl ?_
        have cy : chP s (ST ow (s.1 * s.2.1)) ow q k := ⟨⟨hown, fun z => c_1 z.symm⟩, c_2⟩
        rw [btS_y cy] at hf
        refine g_iastore (n := 64) (f := ow) (h1 := h.set 63 (.inl (0, 64, .inl (upd ow q (Int32.ofNat k))))) rfl X.2.1 (i_in (by omega) (by omega)) (by rw [i_nat eq]) ?_
        refine g_aload_n (i := 0) rfl rfl ?_
        refine g_virt0 rfl (by decide) rfl XA.1 rfl (Nat.le_of_ble_eq_true rfl) (s_hedge12 (d := d) (by omega) MA g1) (fun r9 h9 hq9 => ?_)
        obtain ⟨rfl, rfl⟩ := hq9
        rw [show hdN s.1 (s.1 * s.2.1) (mo m J (upd ow q (Int32.ofNat k))).2.2.1 (s.1 * s.2.1) = (hdN s.1 (s.1 * s.2.1) (owC ow q k) (s.1 * s.2.1)) from congrArg (fun z => hdN s.1 (s.1 * s.2.1) z (s.1 * s.2.1)) owC_u]
        refine g_istore (i := 9) (L1 := [some (.ref 60), some (.int hv), some (.int (cdT t)), some (.int (Int32.ofNat t.2)), some (.int (Int32.ofNat q)), some (.int (ow q)), some (.long (besS s.1 (s.1 * s.2.1) (Int64.ofNat 1 <<< ((Int32.ofNat q).toInt64 &&& 63)))), none, some (.int (Int32.ofNat k)), some (.int (Int32.ofNat (hdN s.1 (s.1 * s.2.1) (owC ow q k) (s.1 * s.2.1))))]) rfl (Nat.le_of_ble_eq_true rfl) rfl ?_
        refine g_iload (i := 9) rfl rfl ?_
        refine g_iload_n (i := 3) rfl rfl ?_
        refine g_icmp_ge 133 rfl rfl (fun c_3 => ?_) (fun c_3 => ?_)
        · skip
          rw [i_le, eh, et] at c_3
          refine g_aload_n (i := 0) rfl rfl ?_
          refine g_getfield (v := .ref 63) rfl XA.1 (by decide) rfl ?_
          refine g_iload (i := 4) rfl rfl ?_
          refine g_iload (i := 5) rfl rfl ?_
          have XZ := rX_ow (ow' := ow) XA
          refine g_iastore (n := 64) (f := upd ow q (Int32.ofNat k)) (h1 := (h.set 63 (.inl (0, 64, .inl (upd ow q (Int32.ofNat k))))).set 63 (.inl (0, 64, .inl ow))) rfl XA.2.1 (i_in (by omega) (by omega)) (by rw [i_nat eq, upd_back]) ?_
          refine g_iinc (i := 8) (L1 := [some (.ref 60), some (.int hv), some (.int (cdT t)), some (.int (Int32.ofNat t.2)), some (.int (Int32.ofNat q)), some (.int (ow q)), some (.long (besS s.1 (s.1 * s.2.1) (Int64.ofNat 1 <<< ((Int32.ofNat q).toInt64 &&& 63)))), none, some (.int (Int32.ofNat k + Int32.ofInt 1)), some (.int (Int32.ofNat (hdN s.1 (s.1 * s.2.1) (owC ow q k) (s.1 * s.2.1))))]) rfl rfl rfl ?_
          rw [ofN_add (by omega)]
          refine g_goto 60 rfl rfl ?_
          rw [show trS m s (10 * q + k) 0 (owC ow q k) t = t from tS_n (fun z => by have := z.1; omega)] at hf
          exact ih (k + 1) t J ((h.set 63 (.inl (0, 64, .inl (upd ow q (Int32.ofNat k))))).set 63 (.inl (0, 64, .inl ow))) (some (.int (Int32.ofNat (hdN s.1 (s.1 * s.2.1) (owC ow q k) (s.1 * s.2.1))))) (by omega) XZ hJ ht hf
        · skip
          rw [i_le, eh, et] at c_3
          refine g_aload_n (i := 0) rfl rfl ?_
          refine g_virt0 rfl (by decide) rfl XA.1 rfl (Nat.le_of_ble_eq_true rfl) (s_fnow (d := d) (c := c) (s := s) hd MA g1 g (RB_mo r hj7) sI ⟨(hj7 0 (by decide)).trans sJ.1, (hj7 1 (by decide)).trans sJ.2.1, (hj7 6 (by decide)).trans sJ.2.2.1, sJ.2.2.2⟩ PA) (fun rv h2 hq => ?_)
          obtain ⟨J2, hr2, hj2, -, E2, rfl⟩ := hq
          have X2 := rX_60 XA E2 hr2
          have hJ2 := jE_tr hJ (fun j a _ _ _ => hj2 j a)
          refine g_if_ne 133 rfl rfl (fun c_4 => ?_) (fun c_4 => ?_)
          · skip
            refine g_aload_n (i := 0) rfl rfl ?_
            refine g_getfield (v := .ref 63) rfl hr2 (by decide) rfl ?_
            refine g_iload (i := 4) rfl rfl ?_
            refine g_iload (i := 5) rfl rfl ?_
            have XZ := rX_ow (ow' := ow) X2
            refine g_iastore (n := 64) (f := upd ow q (Int32.ofNat k)) (h1 := h2.set 63 (.inl (0, 64, .inl ow))) rfl X2.2.1 (i_in (by omega) (by omega)) (by rw [i_nat eq, upd_back]) ?_
            refine g_iinc (i := 8) (L1 := [some (.ref 60), some (.int hv), some (.int (cdT t)), some (.int (Int32.ofNat t.2)), some (.int (Int32.ofNat q)), some (.int (ow q)), some (.long (besS s.1 (s.1 * s.2.1) (Int64.ofNat 1 <<< ((Int32.ofNat q).toInt64 &&& 63)))), none, some (.int (Int32.ofNat k + Int32.ofInt 1)), some (.int (Int32.ofNat (hdN s.1 (s.1 * s.2.1) (owC ow q k) (s.1 * s.2.1))))]) rfl rfl rfl ?_
            rw [ofN_add (by omega)]
            refine g_goto 60 rfl rfl ?_
            rw [show trS m s (10 * q + k) 0 (owC ow q k) t = t from tS_n (fun z => c_4 (hv0.mpr (ev.trans z.2)))] at hf
            exact ih (k + 1) t J2 (h2.set 63 (.inl (0, 64, .inl ow))) (some (.int (Int32.ofNat (hdN s.1 (s.1 * s.2.1) (owC ow q k) (s.1 * s.2.1))))) (by omega) XZ hJ2 ht hf
          · skip
            refine g_iload (i := 9) rfl rfl ?_
            refine g_istore_n (i := 3) (L1 := [some (.ref 60), some (.int hv), some (.int (cdT t)), some (.int (Int32.ofNat (hdN s.1 (s.1 * s.2.1) (owC ow q k) (s.1 * s.2.1)))), some (.int (Int32.ofNat q)), some (.int (ow q)), some (.long (besS s.1 (s.1 * s.2.1) (Int64.ofNat 1 <<< ((Int32.ofNat q).toInt64 &&& 63)))), none, some (.int (Int32.ofNat k)), some (.int (Int32.ofNat (hdN s.1 (s.1 * s.2.1) (owC ow q k) (s.1 * s.2.1))))]) rfl (Nat.le_of_ble_eq_true rfl) rfl ?_
            refine g_bipush (n := 10) rfl ?_
            refine g_iload (i := 4) rfl rfl ?_
            refine g_imul rfl ?_
            refine g_iload (i := 8) rfl rfl ?_
            refine g_iadd rfl ?_
            rw [ecx]
            refine g_istore_n (i := 2) (L1 := [some (.ref 60), some (.int hv), some (.int (Int32.ofNat (10 * q + k))), some (.int (Int32.ofNat (hdN s.1 (s.1 * s.2.1) (owC ow q k) (s.1 * s.2.1)))), some (.int (Int32.ofNat q)), some (.int (ow q)), some (.long (besS s.1 (s.1 * s.2.1) (Int64.ofNat 1 <<< ((Int32.ofNat q).toInt64 &&& 63)))), none, some (.int (Int32.ofNat k)), some (.int (Int32.ofNat (hdN s.1 (s.1 * s.2.1) (owC ow q k) (s.1 * s.2.1))))]) rfl (Nat.le_of_ble_eq_true rfl) rfl ?_
            refine g_aload_n (i := 0) rfl rfl ?_
            refine g_getfield (v := .ref 63) rfl hr2 (by decide) rfl ?_
            refine g_iload (i := 4) rfl rfl ?_
            refine g_iload (i := 5) rfl rfl ?_
            have XZ := rX_ow (ow' := ow) X2
            refine g_iastore (n := 64) (f := upd ow q (Int32.ofNat k)) (h1 := h2.set 63 (.inl (0, 64, .inl ow))) rfl X2.2.1 (i_in (by omega) (by omega)) (by rw [i_nat eq, upd_back]) ?_
            refine g_iinc (i := 8) (L1 := [some (.ref 60), some (.int hv), some (.int (Int32.ofNat (10 * q + k))), some (.int (Int32.ofNat (hdN s.1 (s.1 * s.2.1) (owC ow q k) (s.1 * s.2.1)))), some (.int (Int32.ofNat q)), some (.int (ow q)), some (.long (besS s.1 (s.1 * s.2.1) (Int64.ofNat 1 <<< ((Int32.ofNat q).toInt64 &&& 63)))), none, some (.int (Int32.ofNat k + Int32.ofInt 1)), some (.int (Int32.ofNat (hdN s.1 (s.1 * s.2.1) (owC ow q k) (s.1 * s.2.1))))]) rfl rfl rfl ?_
            rw [ofN_add (by omega)]
            refine g_goto 60 rfl rfl ?_
            have ty : trS m s (10 * q + k) 0 (owC ow q k) t = (some (10 * q + k, 0), (hdN s.1 (s.1 * s.2.1) (owC ow q k) (s.1 * s.2.1))) := tS_y ⟨by omega, ev.symm.trans (hv0.mp c_4)⟩
            rw [ty] at hf
            exact ih (k + 1) (some (10 * q + k, 0), (hdN s.1 (s.1 * s.2.1) (owC ow q k) (s.1 * s.2.1))) J2 (h2.set 63 (.inl (0, 64, .inl ow))) (some (.int (Int32.ofNat (hdN s.1 (s.1 * s.2.1) (owC ow q k) (s.1 * s.2.1))))) (by omega) XZ hJ2 (by show (hdN s.1 (s.1 * s.2.1) (owC ow q k) (s.1 * s.2.1)) ≤ 1000; omega) hf
      · skip
        rw [lc_eq] at c_2
        refine g_goto 142 rfl rfl ?_
        refine g_iinc (i := 8) (L1 := [some (.ref 60), some (.int hv), some (.int (cdT t)), some (.int (Int32.ofNat t.2)), some (.int (Int32.ofNat q)), some (.int (ow q)), some (.long (besS s.1 (s.1 * s.2.1) (Int64.ofNat 1 <<< ((Int32.ofNat q).toInt64 &&& 63)))), none, some (.int (Int32.ofNat k + Int32.ofInt 1)), o9]) rfl rfl rfl ?_
        rw [ofN_add (by omega)]
        refine g_goto 60 rfl rfl ?_
        rw [btS_n (fun z => z.2 c_2)] at hf
        exact ih (k + 1) t J h o9 (by omega) X hJ ht hf
theorem s_btd_go {d : Nat} {hb : sHp} {c : CF} {m : MF} {s : Sg} {Jb ow : Nat → Int32} {hv : Int32} (hd : 5 ≤ d) (M : MC hb (mo m Jb ow)) (hb7 : ∀ j, j < 7 → Jb j = m.1 j) (gM : gdM m.1 s.1 s.2.1) (g : gdF c s.1 s.2.1) (r : RB c m) (sI : sgI c s) (sJ : sgJ m.1 s) (ho : ∀ q, q < s.1 * s.2.1 → ∃ k, k < 7 ∧ ow q = cdS k) : ∀ (f q : Nat) (t : T3) (J : Nat → Int32) (h : sHp) (o5 o6 o7 o8 o9 : Option Value), q + f = s.1 * s.2.1 → rX hb h J ow → jE Jb J → t.2 ≤ 1000 → cdB (s.1 * s.2.1) s.2.2 t → sGo none 240 d 12 [some (.ref 60), some (.int hv), some (.int (cdT t)), some (.int (Int32.ofNat t.2)), some (.int (Int32.ofNat q)), o5, o6, o7, o8, o9] [] h (fun rv h' => rv = some (.int (cdT (btL m s (ST ow (s.1 * s.2.1)) ow f q t))) ∧ ∃ J', rX hb h' J' ow ∧ jE Jb J') := by
  have hn := gdF_n g
  have n5 := sI.2.2.2.2.2.2.2
  have gd := gM
  obtain ⟨gw, gh, w2, w8, h2, h8⟩ := gd
  intro f
  induction f with
  | zero =>
    intro q t J h o5 o6 o7 o8 o9 hk X hJ ht hc
    have hr := X.1
    have hj7 : ∀ j, j < 7 → J j = m.1 j := fun j hj => (hJ j (by omega) (by omega) (by omega) (by omega)).trans (hb7 j hj)
    have eq := ofN_toInt (n := q) (by omega)
    have ew : (J 0 * J 1).toInt = ((s.1 * s.2.1 : Nat) : Int) := n_mul (by rw [hj7 0 (by decide), gw]; exact ofN_toInt (by omega)) (by rw [hj7 1 (by decide), gh]; exact ofN_toInt (by omega)) (by omega)
    refine g_iload (i := 4) rfl rfl ?_
    refine g_aload_n (i := 0) rfl rfl ?_
    refine g_getfield (v := .int (J 0)) rfl hr (by decide) rfl ?_
    refine g_aload_n (i := 0) rfl rfl ?_
    refine g_getfield (v := .int (J 1)) rfl hr (by decide) rfl ?_
    refine g_imul rfl ?_
    refine g_icmp_ge 154 rfl rfl (fun _ => ?_) (fun hc => absurd hc (by rw [i_le, ew, eq]; omega))
    refine g_iload_n (i := 2) rfl rfl ?_
    refine g_ireturn (ty := .int) rfl rfl rfl ?_
    exact ⟨rfl, J, X, hJ⟩
  | succ f ih =>
    intro q t J h o5 o6 o7 o8 o9 hk X hJ ht hc
    have hr := X.1
    have hj7 : ∀ j, j < 7 → J j = m.1 j := fun j hj => (hJ j (by omega) (by omega) (by omega) (by omega)).trans (hb7 j hj)
    have eq := ofN_toInt (n := q) (by omega)
    have ew : (J 0 * J 1).toInt = ((s.1 * s.2.1 : Nat) : Int) := n_mul (by rw [hj7 0 (by decide), gw]; exact ofN_toInt (by omega)) (by rw [hj7 1 (by decide), gh]; exact ofN_toInt (by omega)) (by omega)
    have e6 : J 6 = Int32.ofNat s.2.2 := (hj7 6 (by decide)).trans sJ.2.2.1
    have g1 : gdM J s.1 s.2.1 := ⟨(hj7 0 (by decide)).trans gM.1, (hj7 1 (by decide)).trans gM.2.1, gM.2.2⟩
    refine g_iload (i := 4) rfl rfl ?_
    refine g_aload_n (i := 0) rfl rfl ?_
    refine g_getfield (v := .int (J 0)) rfl hr (by decide) rfl ?_
    refine g_aload_n (i := 0) rfl rfl ?_
    refine g_getfield (v := .int (J 1)) rfl hr (by decide) rfl ?_
    refine g_imul rfl ?_
    refine g_icmp_ge 154 rfl rfl (fun hc => absurd hc (by rw [i_le, ew, eq]; omega)) (fun _ => ?_)
    refine g_aload_n (i := 0) rfl rfl ?_
    refine g_getfield (v := .ref 63) rfl hr (by decide) rfl ?_
    refine g_iload (i := 4) rfl rfl ?_
    refine g_iaload (n := 64) (f := ow) rfl X.2.1 (i_in (by omega) (by omega)) ?_
    rw [i_nat eq]
    refine g_istore (i := 5) (L1 := [some (.ref 60), some (.int hv), some (.int (cdT t)), some (.int (Int32.ofNat t.2)), some (.int (Int32.ofNat q)), some (.int (ow q)), o6, o7, o8, o9]) rfl (Nat.le_of_ble_eq_true rfl) rfl ?_
    refine g_aload_n (i := 0) rfl rfl ?_
    refine g_iload (i := 5) rfl rfl ?_
    refine g_virt1 (Qc := fun r h' => h' = h ∧ (((0 ≤ (ow q).toInt ∧ (ow q).toInt < (s.2.2 : Int)) ∧ r = some (.int 1)) ∨ (¬ (0 ≤ (ow q).toInt ∧ (ow q).toInt < (s.2.2 : Int)) ∧ r = some (.int 0)))) rfl (by decide) rfl hr rfl (Nat.le_of_ble_eq_true rfl) (s_hr12 (by omega) hr e6 n5) (fun r h hq9 => ?_)
    obtain ⟨rfl, ⟨c_1, rfl⟩ | ⟨c_1, rfl⟩⟩ := hq9
    · skip
      refine g_if_ne 47 rfl rfl (fun _ => ?_) (fun hc => absurd hc (by decide))
      refine g_aload_n (i := 0) rfl rfl ?_
      refine g_lconst (n := 1) rfl ?_
      show sGo none 240 _ 49 [some (.ref 60), some (.int hv), some (.int (cdT t)), some (.int (Int32.ofNat t.2)), some (.int (Int32.ofNat q)), some (.int (ow q)), o6, o7, o8, o9] [.long (Int64.ofNat 1), .ref 60] _ _
      refine g_iload (i := 4) rfl rfl ?_
      refine g_lshl rfl ?_
      refine g_virt1 (Qc := fun r h' => h' = h ∧ r = some (.long (besS s.1 (s.1 * s.2.1) (Int64.ofNat 1 <<< ((Int32.ofNat q).toInt64 &&& 63))))) rfl (by decide) rfl hr rfl (Nat.le_of_ble_eq_true rfl) (s_beside12 (by omega) hr g1) (fun r h hq9 => ?_)
      obtain ⟨rfl, rfl⟩ := hq9
      refine g_lstore (i := 6) (L1 := [some (.ref 60), some (.int hv), some (.int (cdT t)), some (.int (Int32.ofNat t.2)), some (.int (Int32.ofNat q)), some (.int (ow q)), some (.long (besS s.1 (s.1 * s.2.1) (Int64.ofNat 1 <<< ((Int32.ofNat q).toInt64 &&& 63)))), none, o8, o9]) rfl (Nat.le_of_ble_eq_true rfl) rfl ?_
      refine g_iconst (n := 0) rfl ?_
      refine g_istore (i := 8) (L1 := [some (.ref 60), some (.int hv), some (.int (cdT t)), some (.int (Int32.ofNat t.2)), some (.int (Int32.ofNat q)), some (.int (ow q)), some (.long (besS s.1 (s.1 * s.2.1) (Int64.ofNat 1 <<< ((Int32.ofNat q).toInt64 &&& 63)))), none, some (.int (Int32.ofInt 0)), o9]) rfl (Nat.le_of_ble_eq_true rfl) rfl ?_
      have pp := btI_p (m := m) (S := (ST ow (s.1 * s.2.1))) (ow := ow) (q := q) (by omega) s.2.2 0 t (Nat.zero_add _) ht hc
      refine s_btd_in (d := d) (hb := hb) (q := q) (fin := btI m s (ST ow (s.1 * s.2.1)) ow q s.2.2 0 t) hd M hb7 gM g r sI sJ ho (by omega) c_1 (fun J2 h2 o8 o9 X2 hJ2 => ?_) s.2.2 0 t J h _ (Nat.zero_add _) X hJ ht rfl
      refine g_iinc (i := 4) (L1 := [some (.ref 60), some (.int hv), some (.int (cdT (btI m s (ST ow (s.1 * s.2.1)) ow q s.2.2 0 t))), some (.int (Int32.ofNat (btI m s (ST ow (s.1 * s.2.1)) ow q s.2.2 0 t).2)), some (.int ((Int32.ofNat q) + Int32.ofInt 1)), some (.int (ow q)), some (.long (besS s.1 (s.1 * s.2.1) (Int64.ofNat 1 <<< ((Int32.ofNat q).toInt64 &&& 63)))), none, o8, o9]) rfl rfl rfl ?_
      rw [ofN_add (by omega)]
      refine g_goto 12 rfl rfl ?_
      exact ih (q + 1) _ J2 h2 _ _ _ _ _ (by omega) X2 hJ2 pp.1 pp.2
    · skip
      refine g_if_ne 47 rfl rfl (fun hc => absurd hc (by decide)) (fun _ => ?_)
      refine g_goto 148 rfl rfl ?_
      refine g_iinc (i := 4) (L1 := [some (.ref 60), some (.int hv), some (.int (cdT t)), some (.int (Int32.ofNat t.2)), some (.int ((Int32.ofNat q) + Int32.ofInt 1)), some (.int (ow q)), o6, o7, o8, o9]) rfl rfl rfl ?_
      rw [ofN_add (by omega)]
      refine g_goto 12 rfl rfl ?_
      rw [show btL m s (ST ow (s.1 * s.2.1)) ow (f + 1) q t = btL m s (ST ow (s.1 * s.2.1)) ow f (q + 1) t from congrArg (btL m s (ST ow (s.1 * s.2.1)) ow f (q + 1)) (btI_no (fun k z => c_1 z.1.1) s.2.2 0 t)]
      exact ih (q + 1) t J h (some (.int (ow q))) o6 o7 o8 o9 (by omega) X hJ ht hc
theorem s_betd12 {d : Nat} {hb : sHp} {c : CF} {m : MF} {s : Sg} {Jb ow : Nat → Int32} (hd : 6 ≤ d) (M : MC hb (mo m Jb ow)) (hb7 : ∀ j, j < 7 → Jb j = m.1 j) (gM : gdM m.1 s.1 s.2.1) (g : gdF c s.1 s.2.1) (r : RB c m) (sI : sgI c s) (sJ : sgJ m.1 s) (ho : ∀ q, q < s.1 * s.2.1 → ∃ k, k < 7 ∧ ow q = cdS k) : sDo d 240 [.ref 60] hb (fun rv h' => rv = some (.int (cdT (btA m s ow))) ∧ ∃ J', rX hb h' J' ow ∧ jE Jb J') := by
  have hn := gdF_n g
  have X0 : rX hb hb Jb ow := ⟨M.1, M.2.2.1, rfl, fun _ _ _ => rfl⟩
  have pp := hdN_le (W := s.1) (n := (s.1 * s.2.1)) (ow := ow) (s.1 * s.2.1)
  refine sDo_of1 (nL := 10) (L := [some (.ref 60), none, none, none, none, none, none, none, none, none]) (by omega) rfl rfl ?_
  refine g_aload_n (i := 0) rfl rfl ?_
  refine g_virt0 rfl (by decide) rfl M.1 rfl (Nat.le_of_ble_eq_true rfl) (s_hedge12 (d := d - 1) (by omega) M ⟨(hb7 0 (by decide)).trans gM.1, (hb7 1 (by decide)).trans gM.2.1, gM.2.2⟩) (fun r9 h9 hq9 => ?_)
  obtain ⟨rfl, rfl⟩ := hq9
  show sGo none 240 _ 4 [some (.ref 60), none, none, none, none, none, none, none, none, none] [.int (Int32.ofNat (hdN s.1 (s.1 * s.2.1) ow (s.1 * s.2.1)))] _ _
  refine g_istore_n (i := 1) (L1 := [some (.ref 60), some (.int (Int32.ofNat (hdN s.1 (s.1 * s.2.1) ow (s.1 * s.2.1)))), none, none, none, none, none, none, none, none]) rfl (Nat.le_of_ble_eq_true rfl) rfl ?_
  refine g_iconst (n := (-1)) rfl ?_
  refine g_istore_n (i := 2) (L1 := [some (.ref 60), some (.int (Int32.ofNat (hdN s.1 (s.1 * s.2.1) ow (s.1 * s.2.1)))), some (.int (Int32.ofInt (-1))), none, none, none, none, none, none, none]) rfl (Nat.le_of_ble_eq_true rfl) rfl ?_
  refine g_iload_n (i := 1) rfl rfl ?_
  refine g_istore_n (i := 3) (L1 := [some (.ref 60), some (.int (Int32.ofNat (hdN s.1 (s.1 * s.2.1) ow (s.1 * s.2.1)))), some (.int (Int32.ofInt (-1))), some (.int (Int32.ofNat (hdN s.1 (s.1 * s.2.1) ow (s.1 * s.2.1)))), none, none, none, none, none, none]) rfl (Nat.le_of_ble_eq_true rfl) rfl ?_
  refine g_iconst (n := 0) rfl ?_
  refine g_istore (i := 4) (L1 := [some (.ref 60), some (.int (Int32.ofNat (hdN s.1 (s.1 * s.2.1) ow (s.1 * s.2.1)))), some (.int (Int32.ofInt (-1))), some (.int (Int32.ofNat (hdN s.1 (s.1 * s.2.1) ow (s.1 * s.2.1)))), some (.int (Int32.ofInt 0)), none, none, none, none, none]) rfl (Nat.le_of_ble_eq_true rfl) rfl ?_
  exact s_btd_go (d := d - 1) (hv := Int32.ofNat (hdN s.1 (s.1 * s.2.1) ow (s.1 * s.2.1))) (by omega) M hb7 gM g r sI sJ ho (s.1 * s.2.1) 0 (none, (hdN s.1 (s.1 * s.2.1) ow (s.1 * s.2.1))) Jb h9 _ _ _ _ _ (Nat.zero_add _) X0 jE_rfl (by show (hdN s.1 (s.1 * s.2.1) ow (s.1 * s.2.1)) ≤ 1000; omega) (fun _ _ z => by cases z)
/-! ===== better ===== -/
def btR (t : T3) : Int32 := match t.1 with
  | none => -5
  | some (a, _) => Int32.ofNat a
theorem cdT_no {n N : Nat} {t : T3} (hn : n ≤ 64) (hN : N ≤ 5) (hc : cdB n N t) : cdT t = Int32.ofInt (-1) ↔ t.1 = none := by
  obtain ⟨t1, t2⟩ := t
  rcases t1 with _ | ⟨a, c⟩
  · exact ⟨fun _ => rfl, fun _ => rfl⟩
  · refine ⟨fun z => ?_, fun z => by cases z⟩
    obtain ⟨q, k, rfl, hq, hk⟩ := hc a c rfl
    have z : Int32.ofNat (10 * q + k) = Int32.ofInt (-1) := z
    have z2 := congrArg Int32.toInt z
    rw [ofC_toInt (by omega)] at z2
    have e1 : (Int32.ofInt (-1)).toInt = -1 := rfl
    omega
theorem btR_n {t : T3} (h : t.1 = none) : btR t = -5 := by unfold btR; rw [h]
theorem btR_s {t : T3} (h : ¬ t.1 = none) : btR t = cdT t := by
  unfold btR cdT
  cases e : t.1 with
  | none => exact absurd e h
  | some p => rfl
theorem s_better11 {d : Nat} {h : sHp} {ik tf : Int32} {R : Nat → Int32} {c : CF} {m : MF} {s : Sg} {ow : Nat → Int32} {B : Nat → Int32} {S1 S2 : Int64} {T : Nat → Int64} (hd : 10 ≤ d) (h0 : h[0]? = some (cO ik tf)) (hR : h[43]? = some (rFc R)) (F : FC h 5 c) (g : gdF c s.1 s.2.1) (r : RB c m) (sI : sgI c s) (P : PT c.2.2.2.2.2.2 ow (s.1 * s.2.1)) (hS : h[38]? = some (sO B S1 S2)) (h41 : h[41]? = some (.inl (1, 7, .inr (.inl T)))) : sDo d 146 [.ref 0] h (fun rv h' => rv = some (.int (btR (btA m s ow))) ∧ vE h h') := by
  have hn := gdF_n g
  have n5 := sI.2.2.2.2.2.2.2
  have hc := cdT_no hn.1 n5 (btA_p (m := m) (ow := ow) hn.1).2
  refine sDo_of1 (nL := 2) (L := [some (.ref 0), none]) (by omega) rfl rfl ?_
  refine g_aload_n (i := 0) rfl rfl ?_
  refine g_getfield (v := .ref 38) rfl h0 (by decide) rfl ?_
  refine g_aload_n (i := 0) rfl rfl ?_
  refine g_getfield (v := .ref 5) rfl h0 (by decide) rfl ?_
  refine g_virt1 rfl (by decide) rfl hS rfl (Nat.le_of_ble_eq_true rfl) (s_change11 (d := d - 1) (m := m) (by omega) F g r sI P hS h41) (fun rv hz hq => ?_)
  obtain ⟨rfl, E, -⟩ := hq
  have z0 := (E.2 0 (by decide)).trans h0
  have z43 := (E.2 43 (by decide)).trans hR
  have vz : vE h hz := ⟨E.1, fun q hq => E.2 q (by omega)⟩
  refine g_istore_n (i := 1) (L1 := [some (.ref 0), some (.int (cdT (btA m s ow)))]) rfl (Nat.le_of_ble_eq_true rfl) rfl ?_
  refine g_iload_n (i := 1) rfl rfl ?_
  refine g_iconst (n := (-1)) rfl ?_
  refine g_icmp_ne 26 rfl rfl (fun c_1 => ?_) (fun c_1 => ?_)
  · skip
    refine g_iload_n (i := 1) rfl rfl ?_
    refine g_ireturn (ty := .int) rfl rfl rfl ?_
    exact ⟨by rw [btR_s (fun z => c_1 (hc.mpr z))], vz⟩
  · skip
    refine g_aload_n (i := 0) rfl rfl ?_
    refine g_bipush (n := (-5)) rfl ?_
    refine g_virt1 (Qc := fun r h' => r = some (.int (-5)) ∧ h' = hz.set 43 (rFc (bump R 5))) rfl (by decide) rfl z0 rfl (Nat.le_of_ble_eq_true rfl) (s_refuse2 (X := 5) (by omega) z0 z43 rfl (by decide)) (fun r h9 hq9 => ?_)
    obtain ⟨rfl, rfl⟩ := hq9
    refine g_goto 27 rfl rfl ?_
    refine g_ireturn (ty := .int) rfl rfl rfl ?_
    exact ⟨by rw [btR_n (hc.mp c_1)], ⟨by rw [List.length_set]; exact vz.1, fun q hq => by rw [s_set_ne (by omega)]; exact vz.2 q hq⟩⟩
theorem s_better12 {d : Nat} {h : sHp} {R : Nat → Int32} {c : CF} {m : MF} {s : Sg} (hd : 8 ≤ d) (M : MC h m) (hR : h[61]? = some (rFc R)) (gM : gdM m.1 s.1 s.2.1) (g : gdF c s.1 s.2.1) (r : RB c m) (sI : sgI c s) (sJ : sgJ m.1 s) (ho : ∀ q, q < s.1 * s.2.1 → ∃ k, k < 7 ∧ m.2.2.1 q = cdS k) : sDo d 241 [.ref 60] h (qB m (btR (btA m s m.2.2.1))) := by
  have hn := gdF_n g
  have n5 := sI.2.2.2.2.2.2.2
  have hc := cdT_no hn.1 n5 (btA_p (m := m) (ow := m.2.2.1) hn.1).2
  refine sDo_of1 (nL := 2) (L := [some (.ref 60), none]) (by omega) rfl rfl ?_
  refine g_aload_n (i := 0) rfl rfl ?_
  refine g_virt0 rfl (by decide) rfl M.1 rfl (Nat.le_of_ble_eq_true rfl) (s_betd12 (d := d - 1) (m := m) (Jb := m.1) (ow := m.2.2.1) (c := c) (by omega) M (fun _ _ => rfl) gM g r sI sJ ho) (fun rv hz hq => ?_)
  obtain ⟨rfl, J', X, hJ⟩ := hq
  have z61 := (X.2.2.2 61 (by decide) (by decide)).trans hR
  refine g_istore_n (i := 1) (L1 := [some (.ref 60), some (.int (cdT (btA m s m.2.2.1)))]) rfl (Nat.le_of_ble_eq_true rfl) rfl ?_
  refine g_iload_n (i := 1) rfl rfl ?_
  refine g_iconst (n := (-1)) rfl ?_
  refine g_icmp_ne 19 rfl rfl (fun c_1 => ?_) (fun c_1 => ?_)
  · skip
    refine g_iload_n (i := 1) rfl rfl ?_
    refine g_ireturn (ty := .int) rfl rfl rfl ?_
    exact ⟨by rw [btR_s (fun z => c_1 (hc.mpr z))], m.2.2.1, X.2.1, fun _ _ => rfl⟩
  · skip
    refine g_aload_n (i := 0) rfl rfl ?_
    refine g_bipush (n := (-5)) rfl ?_
    refine g_virt1 (Qc := fun r h' => r = some (.int (-5)) ∧ h' = hz.set 61 (rFc (bump R 5))) rfl (by decide) rfl X.1 rfl (Nat.le_of_ble_eq_true rfl) (s_no2 (X := 5) (by omega) X.1 z61 rfl (by decide)) (fun r h9 hq9 => ?_)
    obtain ⟨rfl, rfl⟩ := hq9
    refine g_goto 20 rfl rfl ?_
    refine g_ireturn (ty := .int) rfl rfl rfl ?_
    exact ⟨by rw [btR_n (hc.mp c_1)], m.2.2.1, by rw [s_set_ne (by decide)]; exact X.2.1, fun _ _ => rfl⟩
theorem pr9_better : pairR bR9 146 241 [] := pr_oR (c1 := cn_X11_better_0) (c2 := cn_X12_better_0) ch_X11_better_0 ch_X12_better_0 (by decide +kernel) (by decide +kernel) (by decide +kernel) (by decide +kernel) rfl rfl (fun h hH => ⟨bt0 hH, trivial⟩) (fun h hH => ⟨bt60 hH, trivial⟩) (by decide +kernel) (by decide +kernel) (fun h hH hR => by
  obtain ⟨⟨hd, so, sz, co, cl, f, gg, q4, bs⟩, c, ck, m, gk, ik, tf, kc, km, ej, rl, rk⟩ := hR
  have F := kc.1
  have h0 := kc.2.2.1
  have M := km.1
  obtain ⟨R, hR43⟩ := RA_of hH (p := 43) (Or.inl rfl)
  obtain ⟨s, sI, sJ, g, gM⟩ := RN_sg rl.1.1
  have n5 := sI.2.2.2.2.2.2.2
  have hn := gdF_n g
  have PO := rl.2 s sI
  obtain ⟨B, S1, S2, fc, ff, s38, s39, s40⟩ := SO_of2 hH
  obtain ⟨T, s41⟩ := trial_of hH
  refine ⟨_, m.2.2.1, M.2.2.1, sDo_mono (s_better11 (d := 10) (m := m) (by omega) h0 hR43 F g rl.1 sI PO s38 s41) (fun r h' q => q), fun h1 hH1 E => ?_⟩
  obtain ⟨Rm, hRm⟩ := RA_of hH1 (p := 61) (Or.inr rfl)
  exact s_better12 (d := 10) (by omega) (MC_vE M E) hRm gM g rl.1 sI sJ PO.2)
end
section
/-! ===== calls that change the owners ===== -/
def vO (h h1 : sHp) : Prop := h1.length = h.length ∧ ∀ q, (q < 38 ∨ 43 < q) → q ≠ 15 → h1[q]? = h[q]?
theorem vO_at {h h1 : sHp} {q : Nat} {x : va_E} (e : vO h h1) (hx : h[q]? = some x) (hq : (q < 38 ∨ 43 < q) ∧ q ≠ 15) : h1[q]? = some x := (e.2 q hq.1 hq.2).trans hx
theorem vO_rfl {h : sHp} : vO h h := ⟨rfl, fun _ _ _ => rfl⟩
theorem vO_15 {h h1 : sHp} {x : va_E} (e : vO h h1) : vO h (h1.set 15 x) := ⟨by rw [List.length_set]; exact e.1, fun q a b => by rw [s_set_ne (Ne.symm b)]; exact e.2 q a b⟩
theorem vO_43 {h h1 : sHp} {q : Nat} {x : va_E} (e : vO h h1) (hq : 38 ≤ q ∧ q ≤ 43) : vO h (h1.set q x) := ⟨by rw [List.length_set]; exact e.1, fun p a b => by rw [s_set_ne (by omega)]; exact e.2 p a b⟩
theorem MC_vO {h h1 : sHp} {m : MF} (M : MC h m) (E : vO h h1) : MC h1 m := MC_tr M (fun q x h1 h2 h3 hx => vO_at E hx (by omega))
theorem bR9_own {W1 g1 W2 g2 : Nat} {h h1 h2 : sHp} {S' : Nat → Int64} {ow' : Nat → Int32} (hH1 : bH h1) (hH2 : bH h2) (a1 : bFr W1 g1 h h1) (a2 : bFr W2 g2 h1 h2) (w1 : ∀ b ∈ bRM ++ (KBc ++ (KBm ++ [63 * 64])), W1.testBit b = false) (w2 : ∀ b ∈ bRM ++ (KBc ++ (KBm ++ [15 * 64])), W2.testBit b = false) (q : bR9 h) (h15 : h1[15]? = some (.inl (1, 7, .inr (.inl S')))) (h63 : h2[63]? = some (.inl (0, 64, .inl ow'))) (p : ∀ c m s, RO c m → FC h 5 c → MC h m → sgI c s → PT S' ow' (s.1 * s.2.1)) : bR9 h2 := by
  obtain ⟨q5, c, ck, m, g, ik, tf, kc, km, ej, rl, rk⟩ := q
  have w1c : ∀ b ∈ KBc, W1.testBit b = false := fun b hb => w1 b (List.mem_append_right _ (List.mem_append_left _ hb))
  have w1m : ∀ b ∈ KBm, W1.testBit b = false := fun b hb => w1 b (List.mem_append_right _ (List.mem_append_right _ (List.mem_append_left _ hb)))
  have w163 : W1.testBit (63 * 64) = false := w1 _ (List.mem_append_right _ (List.mem_append_right _ (List.mem_append_right _ (List.mem_cons_self ..))))
  have w2c : ∀ b ∈ KBc, W2.testBit b = false := fun b hb => w2 b (List.mem_append_right _ (List.mem_append_left _ hb))
  have w2m : ∀ b ∈ KBm, W2.testBit b = false := fun b hb => w2 b (List.mem_append_right _ (List.mem_append_right _ (List.mem_append_left _ hb)))
  have w215 : W2.testBit (15 * 64) = false := w2 _ (List.mem_append_right _ (List.mem_append_right _ (List.mem_append_right _ (List.mem_cons_self ..))))
  have kc1 := kC_frO a1 w1c h15 kc
  have kc2 := kC_fr a2 w2c w215 kc1
  obtain ⟨J1, km1, e1, f1⟩ := kM_frO hH1 a1 w1m (bFr_arr a1 km.1.2.2.1 (by decide) rfl w163) km
  obtain ⟨J2, km2, e2, f2⟩ := kM_frO hH2 a2 w2m h63 km1
  obtain ⟨s, sI, sJ, gF, -⟩ := RN_sg rl.1.1
  have r2 := RO_ow (o1 := S') (o2 := ow') rl sI (p c m s rl kc.1 km.1 sI)
  exact ⟨bR5_fr a2 (fun b hb => w2 b (List.mem_append_left _ hb)) (bR5_fr a1 (fun b hb => w1 b (List.mem_append_left _ hb)) q5), _, ck, _, g, ik, tf, kc2, km2, (f2.trans f1).trans ej, RO_ok.1 _ _ _ r2 ⟨fun j hj => (e2 j hj).trans (e1 j hj), rfl⟩, rk⟩
theorem pr_wR {c1 c2 : bCn} {as : List Value} (h1 : bHolds c1) (h2 : bHolds c2) (d1 : Nat.ble c1.2.1 10 = true) (d2 : Nat.ble c2.2.1 10 = true) (g1 : Nat.ble c1.2.2.2.2.2.1 1 = true) (g2 : Nat.ble c2.2.2.2.2.2.1 1 = true) (o1 : c1.2.2.2.1 = []) (o2 : c2.2.2.2.1 = []) (t1 : ∀ h, bH h → bTl h c1.2.2.1 (.ref 0 :: as)) (t2 : ∀ h, bH h → bTl h c2.2.2.1 (.ref 60 :: as)) (w1 : ∀ b ∈ bRM ++ (KBc ++ (KBm ++ [63 * 64])), c1.2.2.2.2.1.testBit b = false) (w2 : ∀ b ∈ bRM ++ (KBc ++ (KBm ++ [15 * 64])), c2.2.2.2.2.1.testBit b = false) (e : ∀ h, bH h → bR9 h → ∃ (v : Value) (S' : Nat → Int64) (ow' : Nat → Int32), (∀ c m s, RO c m → FC h 5 c → MC h m → sgI c s → PT S' ow' (s.1 * s.2.1)) ∧ sDo 10 c1.1 (.ref 0 :: as) h (fun r h1 => r = some v ∧ h1[15]? = some (.inl (1, 7, .inr (.inl S'))) ∧ vO h h1) ∧ ∀ h1, bH h1 → vO h h1 → sDo 10 c2.1 (.ref 60 :: as) h1 (fun r h2 => r = some v ∧ h2[63]? = some (.inl (0, 64, .inl ow')))) : pairR bR9 c1.1 c2.1 as :=
  pr_mk h1 h2 d1 d2 g1 g2 o1 o2 t1 t2 (fun h hH hR => by
    obtain ⟨v, S', ow', p, e1, e2⟩ := e h hH hR
    exact sDo_mono e1 (fun r1 h1' q hH1 fr1 => sDo_mono (e2 h1' hH1 q.2.2) (fun r2 h2' z hH2 fr2 => ⟨bR9_own hH1 hH2 fr1 fr2 w1 w2 hR q.2.1 z.2 p, v, q.1, z.1⟩)))
theorem FC_one {h : sHp} {c c' : CF} (a : FC h 5 c) (b : FC h 5 c') : c'.2.2.2.2.2.2 = c.2.2.2.2.2.2 := by
  have e := b.2.2.2.2.2.2.symm.trans a.2.2.2.2.2.2
  simp only [Option.some.injEq, Sum.inl.injEq, Prod.mk.injEq, Sum.inr.injEq, true_and] at e
  exact e
theorem MC_one {h : sHp} {m m' : MF} (a : MC h m) (b : MC h m') : m'.2.2.1 = m.2.2.1 := by
  have e := b.2.2.1.symm.trans a.2.2.1
  simp only [Option.some.injEq, Sum.inl.injEq, Prod.mk.injEq, true_and] at e
  exact e
/-! ===== slots ===== -/
def okO (n : Nat) (i : Int32) (k : Nat) : Prop := (k = 5 ∧ i = 9) ∨ (k = 6 ∧ i = -1) ∨ (k < n ∧ i = Int32.ofNat k)
theorem okO_c {n k : Nat} {i : Int32} (hN : n ≤ 5) (h : okO n i k) : k < 7 ∧ i = cdS k := by
  rcases h with ⟨rfl, rfl⟩ | ⟨rfl, rfl⟩ | ⟨a, rfl⟩
  · exact ⟨by decide, rfl⟩
  · exact ⟨by decide, rfl⟩
  · exact ⟨by omega, (cdS_lt (by omega)).symm⟩
theorem s_slot11 {d : Nat} {h : sHp} {c : CF} {s : Sg} {i : Int32} {k : Nat} (hd : 2 ≤ d) (F : FC h 5 c) (sI : sgI c s) (hk : okO s.2.2 i k) : sDo d 40 [.ref 5, .int i] h (fun r h' => h' = h ∧ r = some (.int (Int32.ofNat k))) := by
  have n5 := sI.2.2.2.2.2.2.2
  have e9 : (9 : Int32).toInt = 9 := rfl
  have em : (-1 : Int32).toInt = -1 := rfl
  have e9' : ((Int8.ofInt 9).toInt32).toInt = 9 := rfl
  have em' : (Int32.ofInt (-1)).toInt = -1 := rfl
  refine sDo_of1 (nL := 2) (L := [some (.ref 5), some (.int i)]) (by omega) rfl rfl ?_
  rcases hk with ⟨rfl, rfl⟩ | ⟨rfl, rfl⟩ | ⟨hk, rfl⟩
  · skip
    refine g_iload_n (i := 1) rfl rfl ?_
    refine g_bipush (n := 9) rfl ?_
    refine g_icmp_ne 8 rfl rfl (fun hc => absurd hc (by exact fun z => z rfl)) (fun _ => ?_)
    refine g_iconst (n := 5) rfl ?_
    refine g_ireturn (ty := .int) rfl rfl rfl ?_
    exact ⟨rfl, rfl⟩
  · skip
    refine g_iload_n (i := 1) rfl rfl ?_
    refine g_bipush (n := 9) rfl ?_
    refine g_icmp_ne 8 rfl rfl (fun _ => ?_) (fun hc => absurd hc (by decide))
    refine g_iload_n (i := 1) rfl rfl ?_
    refine g_iconst (n := (-1)) rfl ?_
    refine g_icmp_ne 16 rfl rfl (fun hc => absurd hc (by exact fun z => z rfl)) (fun _ => ?_)
    refine g_bipush (n := 6) rfl ?_
    refine g_ireturn (ty := .int) rfl rfl rfl ?_
    exact ⟨rfl, rfl⟩
  · skip
    have ek := ofN_toInt (n := k) (by omega)
    refine g_iload_n (i := 1) rfl rfl ?_
    refine g_bipush (n := 9) rfl ?_
    refine g_icmp_ne 8 rfl rfl (fun _ => ?_) (fun hc => absurd hc (by intro z; have z := congrArg Int32.toInt z; rw [ek, e9'] at z; omega))
    refine g_iload_n (i := 1) rfl rfl ?_
    refine g_iconst (n := (-1)) rfl ?_
    refine g_icmp_ne 16 rfl rfl (fun _ => ?_) (fun hc => absurd hc (by intro z; have z := congrArg Int32.toInt z; rw [ek, em'] at z; omega))
    refine g_aload_n (i := 0) rfl rfl ?_
    refine g_iload_n (i := 1) rfl rfl ?_
    refine g_virt1 (Qc := fun r h' => h' = h ∧ (((0 ≤ (Int32.ofNat k).toInt ∧ (Int32.ofNat k).toInt < (s.2.2 : Int)) ∧ r = some (.int 1)) ∨ (¬ (0 ≤ (Int32.ofNat k).toInt ∧ (Int32.ofNat k).toInt < (s.2.2 : Int)) ∧ r = some (.int 0)))) rfl (by decide) rfl F.1 rfl (Nat.le_of_ble_eq_true rfl) (s_hr11 (by omega) F sI.2.2.1 n5) (fun r h hq9 => ?_)
    obtain ⟨rfl, ⟨c_1, rfl⟩ | ⟨c_1, rfl⟩⟩ := hq9
    · skip
      refine g_if_eq 28 rfl rfl (fun hc => absurd hc (by decide)) (fun _ => ?_)
      refine g_iload_n (i := 1) rfl rfl ?_
      refine g_goto 29 rfl rfl ?_
      refine g_ireturn (ty := .int) rfl rfl rfl ?_
      exact ⟨rfl, rfl⟩
    · skip
      omega
theorem s_slot11n {d : Nat} {h : sHp} {c : CF} {s : Sg} {i : Int32} (hd : 2 ≤ d) (F : FC h 5 c) (sI : sgI c s) (hno : ∀ k, ¬ okO s.2.2 i k) : sDo d 40 [.ref 5, .int i] h (fun r h' => h' = h ∧ r = some (.int (Int32.ofInt (-1)))) := by
  have n5 := sI.2.2.2.2.2.2.2
  refine sDo_of1 (nL := 2) (L := [some (.ref 5), some (.int i)]) (by omega) rfl rfl ?_
  have nh : ¬ (0 ≤ i.toInt ∧ i.toInt < (s.2.2 : Int)) := fun z => hno i.toInt.toNat (Or.inr (Or.inr ⟨by omega, Int32.toInt_inj.mp (by rw [ofN_toInt (by omega)]; omega)⟩))
  refine g_iload_n (i := 1) rfl rfl ?_
  refine g_bipush (n := 9) rfl ?_
  refine g_icmp_ne 8 rfl rfl (fun _ => ?_) (fun hc => absurd hc (by exact fun z => hno 5 (Or.inl ⟨rfl, z⟩)))
  refine g_iload_n (i := 1) rfl rfl ?_
  refine g_iconst (n := (-1)) rfl ?_
  refine g_icmp_ne 16 rfl rfl (fun _ => ?_) (fun hc => absurd hc (by exact fun z => hno 6 (Or.inr (Or.inl ⟨rfl, z⟩))))
  refine g_aload_n (i := 0) rfl rfl ?_
  refine g_iload_n (i := 1) rfl rfl ?_
  refine g_virt1 (Qc := fun r h' => h' = h ∧ (((0 ≤ i.toInt ∧ i.toInt < (s.2.2 : Int)) ∧ r = some (.int 1)) ∨ (¬ (0 ≤ i.toInt ∧ i.toInt < (s.2.2 : Int)) ∧ r = some (.int 0)))) rfl (by decide) rfl F.1 rfl (Nat.le_of_ble_eq_true rfl) (s_hr11 (by omega) F sI.2.2.1 n5) (fun r h hq9 => ?_)
  obtain ⟨rfl, ⟨c_1, rfl⟩ | ⟨c_1, rfl⟩⟩ := hq9
  · skip
    exact absurd c_1 nh
  · skip
    refine g_if_eq 28 rfl rfl (fun _ => ?_) (fun hc => absurd hc (by decide))
    refine g_iconst (n := (-1)) rfl ?_
    refine g_ireturn (ty := .int) rfl rfl rfl ?_
    exact ⟨rfl, rfl⟩
theorem s_isOwn12 {d : Nat} {h : sHp} {m : MF} {s : Sg} {i : Int32} (hd : 2 ≤ d) (M : MC h m) (sJ : sgJ m.1 s) : sDo d 214 [.ref 60, .int i] h (fun r h' => h' = h ∧ ((∃ k, okO s.2.2 i k) ∧ r = some (.int 1) ∨ ¬ (∃ k, okO s.2.2 i k) ∧ r = some (.int 0))) := by
  have n5 := sJ.2.2.2.2.2.2.2
  refine sDo_of1 (nL := 2) (L := [some (.ref 60), some (.int i)]) (by omega) rfl rfl ?_
  refine g_iload_n (i := 1) rfl rfl ?_
  refine g_iconst (n := (-1)) rfl ?_
  refine g_icmp_eq 19 rfl rfl (fun c_1 => ?_) (fun c_1 => ?_)
  · skip
    refine g_iconst (n := 1) rfl ?_
    refine g_goto 24 rfl rfl ?_
    refine g_ireturn (ty := .boolean) rfl rfl (by decide) ?_
    exact ⟨rfl, Or.inl ⟨⟨6, Or.inr (Or.inl ⟨rfl, c_1⟩)⟩, rfl⟩⟩
  · skip
    refine g_iload_n (i := 1) rfl rfl ?_
    refine g_bipush (n := 9) rfl ?_
    refine g_icmp_eq 19 rfl rfl (fun c_2 => ?_) (fun c_2 => ?_)
    · skip
      refine g_iconst (n := 1) rfl ?_
      refine g_goto 24 rfl rfl ?_
      refine g_ireturn (ty := .boolean) rfl rfl (by decide) ?_
      exact ⟨rfl, Or.inl ⟨⟨5, Or.inl ⟨rfl, c_2⟩⟩, rfl⟩⟩
    · skip
      refine g_aload_n (i := 0) rfl rfl ?_
      refine g_iload_n (i := 1) rfl rfl ?_
      refine g_virt1 (Qc := fun r h' => h' = h ∧ (((0 ≤ i.toInt ∧ i.toInt < (s.2.2 : Int)) ∧ r = some (.int 1)) ∨ (¬ (0 ≤ i.toInt ∧ i.toInt < (s.2.2 : Int)) ∧ r = some (.int 0)))) rfl (by decide) rfl M.1 rfl (Nat.le_of_ble_eq_true rfl) (s_hr12 (by omega) M.1 sJ.2.2.1 n5) (fun r h hq9 => ?_)
      obtain ⟨rfl, ⟨c_3, rfl⟩ | ⟨c_3, rfl⟩⟩ := hq9
      · skip
        refine g_if_eq 23 rfl rfl (fun hc => absurd hc (by decide)) (fun _ => ?_)
        refine g_iconst (n := 1) rfl ?_
        refine g_goto 24 rfl rfl ?_
        refine g_ireturn (ty := .boolean) rfl rfl (by decide) ?_
        exact ⟨rfl, Or.inl ⟨⟨i.toInt.toNat, Or.inr (Or.inr ⟨by omega, Int32.toInt_inj.mp (by rw [ofN_toInt (by omega)]; omega)⟩)⟩, rfl⟩⟩
      · skip
        refine g_if_eq 23 rfl rfl (fun _ => ?_) (fun hc => absurd hc (by decide))
        refine g_iconst (n := 0) rfl ?_
        refine g_ireturn (ty := .boolean) rfl rfl (by decide) ?_
        refine ⟨rfl, Or.inr ⟨fun z => ?_, rfl⟩⟩
        obtain ⟨k, ⟨-, z⟩ | ⟨-, z⟩ | ⟨z1, z⟩⟩ := z
        · exact c_2 z
        · exact c_1 z
        · rw [z] at c_3
          exact c_3 ⟨by rw [ofN_toInt (by omega)]; omega, by rw [ofN_toInt (by omega)]; omega⟩
/-! ===== own ===== -/
theorem s_own11 {d : Nat} {h : sHp} {ik tf : Int32} {c : CF} {s : Sg} {x : Int64} {i : Int32} {k : Nat} (hd : 4 ≤ d) (h0 : h[0]? = some (cO ik tf)) (F : FC h 5 c) (g : gdF c s.1 s.2.1) (sI : sgI c s) (hk : okO s.2.2 i k) (hx : inN x (s.1 * s.2.1)) : sDo d 133 [.ref 0, .long x, .int i] h (fun r h' => r = some (.int (Int32.ofNat (cnt x))) ∧ h' = h.set 15 (.inl (1, 7, .inr (.inl (giveS c.2.2.2.2.2.2 7 x k))))) := by
  have n5 := sI.2.2.2.2.2.2.2
  have k7 := (okO_c n5 hk).1
  have ek := ofN_toInt (n := k) (by omega)
  refine sDo_of1 (nL := 5) (L := [some (.ref 0), some (.long x), none, some (.int i), none]) (by omega) rfl rfl ?_
  refine g_aload_n (i := 0) rfl rfl ?_
  refine g_getfield (v := .ref 5) rfl h0 (by decide) rfl ?_
  refine g_iload_n (i := 3) rfl rfl ?_
  refine g_virt1 (Qc := fun r h' => h' = h ∧ r = some (.int (Int32.ofNat k))) rfl (by decide) rfl F.1 rfl (Nat.le_of_ble_eq_true rfl) (s_slot11 (by omega) F sI hk) (fun r h hq9 => ?_)
  obtain ⟨rfl, rfl⟩ := hq9
  refine g_istore (i := 4) (L1 := [some (.ref 0), some (.long x), none, some (.int i), some (.int (Int32.ofNat k))]) rfl (Nat.le_of_ble_eq_true rfl) rfl ?_
  refine g_aload_n (i := 0) rfl rfl ?_
  refine g_getfield (v := .ref 5) rfl h0 (by decide) rfl ?_
  refine g_lload_n (i := 1) rfl rfl ?_
  refine g_virt1 (Qc := fun r h' => h' = h ∧ (((inN x (s.1 * s.2.1)) ∧ r = some (.int 1)) ∨ (¬ (inN x (s.1 * s.2.1)) ∧ r = some (.int 0)))) rfl (by decide) rfl F.1 rfl (Nat.le_of_ble_eq_true rfl) (s_hasAll (by omega) F g) (fun r h hq9 => ?_)
  obtain ⟨rfl, ⟨c_1, rfl⟩ | ⟨c_1, rfl⟩⟩ := hq9
  · skip
    refine g_if_eq 27 rfl rfl (fun hc => absurd hc (by decide)) (fun _ => ?_)
    refine g_iload (i := 4) rfl rfl ?_
    refine g_iconst (n := (-1)) rfl ?_
    refine g_icmp_ne 33 rfl rfl (fun _ => ?_) (fun hc => absurd hc (by intro z; have z := congrArg Int32.toInt z; rw [ek] at z; have e1 : (Int32.ofInt (-1)).toInt = -1 := rfl; omega))
    refine g_aload_n (i := 0) rfl rfl ?_
    refine g_getfield (v := .ref 5) rfl h0 (by decide) rfl ?_
    refine g_getfield (v := .ref (5 + 10)) rfl F.1 (by decide) rfl ?_
    refine g_lload_n (i := 1) rfl rfl ?_
    refine g_iload (i := 4) rfl rfl ?_
    refine g_static3 (Qc := fun r h' => r = none ∧ h' = h.set 15 (.inl (1, 7, .inr (.inl (giveS c.2.2.2.2.2.2 7 x k))))) rfl (by decide) rfl (Nat.le_of_ble_eq_true rfl) (by rw [show d - 1 = (d - 2) + 1 by omega]; exact s_give (d := d - 2) F.2.2.2.2.2.2 (by decide) ek k7) (fun r1 h1 hq => ?_)
    obtain ⟨rfl, rfl⟩ := hq
    refine g_lload_n (i := 1) rfl rfl ?_
    refine g_static1 rfl (by decide) rfl (Nat.le_of_ble_eq_true rfl) (s_bitCount (d := d - 1) (by omega)) (fun r2 h2 hq => ?_)
    obtain ⟨rfl, rfl⟩ := hq
    refine g_ireturn (ty := .int) rfl rfl rfl ?_
    exact ⟨rfl, rfl⟩
  · skip
    exact absurd hx c_1
theorem s_own11n {d : Nat} {h : sHp} {ik tf : Int32} {R : Nat → Int32} {c : CF} {s : Sg} {x : Int64} {i : Int32} (hd : 4 ≤ d) (h0 : h[0]? = some (cO ik tf)) (hR : h[43]? = some (rFc R)) (F : FC h 5 c) (g : gdF c s.1 s.2.1) (sI : sgI c s) (hno : ¬ ((∃ k, okO s.2.2 i k) ∧ inN x (s.1 * s.2.1))) : sDo d 133 [.ref 0, .long x, .int i] h (fun r h' => r = some (.int (-1)) ∧ h' = h.set 43 (rFc (bump R 1))) := by
  have n5 := sI.2.2.2.2.2.2.2
  refine sDo_of1 (nL := 5) (L := [some (.ref 0), some (.long x), none, some (.int i), none]) (by omega) rfl rfl ?_
  by_cases hk : ∃ k, okO s.2.2 i k
  · obtain ⟨k, hk⟩ := hk
    have k7 := (okO_c n5 hk).1
    have ek := ofN_toInt (n := k) (by omega)
    have hx : ¬ inN x (s.1 * s.2.1) := fun z => hno ⟨⟨k, hk⟩, z⟩
    refine g_aload_n (i := 0) rfl rfl ?_
    refine g_getfield (v := .ref 5) rfl h0 (by decide) rfl ?_
    refine g_iload_n (i := 3) rfl rfl ?_
    refine g_virt1 (Qc := fun r h' => h' = h ∧ r = some (.int (Int32.ofNat k))) rfl (by decide) rfl F.1 rfl (Nat.le_of_ble_eq_true rfl) (s_slot11 (by omega) F sI hk) (fun r h hq9 => ?_)
    obtain ⟨rfl, rfl⟩ := hq9
    refine g_istore (i := 4) (L1 := [some (.ref 0), some (.long x), none, some (.int i), some (.int (Int32.ofNat k))]) rfl (Nat.le_of_ble_eq_true rfl) rfl ?_
    refine g_aload_n (i := 0) rfl rfl ?_
    refine g_getfield (v := .ref 5) rfl h0 (by decide) rfl ?_
    refine g_lload_n (i := 1) rfl rfl ?_
    refine g_virt1 (Qc := fun r h' => h' = h ∧ (((inN x (s.1 * s.2.1)) ∧ r = some (.int 1)) ∨ (¬ (inN x (s.1 * s.2.1)) ∧ r = some (.int 0)))) rfl (by decide) rfl F.1 rfl (Nat.le_of_ble_eq_true rfl) (s_hasAll (by omega) F g) (fun r h hq9 => ?_)
    obtain ⟨rfl, ⟨c_1, rfl⟩ | ⟨c_1, rfl⟩⟩ := hq9
    · skip
      exact absurd c_1 hx
    · skip
      refine g_if_eq 27 rfl rfl (fun _ => ?_) (fun hc => absurd hc (by decide))
      refine g_aload_n (i := 0) rfl rfl ?_
      refine g_iconst (n := (-1)) rfl ?_
      refine g_virt1 (Qc := fun r h' => r = some (.int ((Int32.ofInt (-1)))) ∧ h' = h.set 43 (rFc (bump R 1))) rfl (by decide) rfl h0 rfl (Nat.le_of_ble_eq_true rfl) (s_refuse2 (X := 1) (by omega) h0 hR rfl (by decide)) (fun r h9 hq9 => ?_)
      obtain ⟨rfl, rfl⟩ := hq9
      refine g_ireturn (ty := .int) rfl rfl rfl ?_
      exact ⟨rfl, rfl⟩
  · have hk2 : ∀ k, ¬ okO s.2.2 i k := fun k z => hk ⟨k, z⟩
    refine g_aload_n (i := 0) rfl rfl ?_
    refine g_getfield (v := .ref 5) rfl h0 (by decide) rfl ?_
    refine g_iload_n (i := 3) rfl rfl ?_
    refine g_virt1 (Qc := fun r h' => h' = h ∧ r = some (.int (Int32.ofInt (-1)))) rfl (by decide) rfl F.1 rfl (Nat.le_of_ble_eq_true rfl) (s_slot11n (by omega) F sI hk2) (fun r h hq9 => ?_)
    obtain ⟨rfl, rfl⟩ := hq9
    refine g_istore (i := 4) (L1 := [some (.ref 0), some (.long x), none, some (.int i), some (.int (Int32.ofInt (-1)))]) rfl (Nat.le_of_ble_eq_true rfl) rfl ?_
    refine g_aload_n (i := 0) rfl rfl ?_
    refine g_getfield (v := .ref 5) rfl h0 (by decide) rfl ?_
    refine g_lload_n (i := 1) rfl rfl ?_
    refine g_virt1 (Qc := fun r h' => h' = h ∧ (((inN x (s.1 * s.2.1)) ∧ r = some (.int 1)) ∨ (¬ (inN x (s.1 * s.2.1)) ∧ r = some (.int 0)))) rfl (by decide) rfl F.1 rfl (Nat.le_of_ble_eq_true rfl) (s_hasAll (by omega) F g) (fun r h hq9 => ?_)
    obtain ⟨rfl, ⟨c_1, rfl⟩ | ⟨c_1, rfl⟩⟩ := hq9
    · skip
      refine g_if_eq 27 rfl rfl (fun hc => absurd hc (by decide)) (fun _ => ?_)
      refine g_iload (i := 4) rfl rfl ?_
      refine g_iconst (n := (-1)) rfl ?_
      refine g_icmp_ne 33 rfl rfl (fun hc => absurd hc (by exact fun z => z rfl)) (fun _ => ?_)
      refine g_aload_n (i := 0) rfl rfl ?_
      refine g_iconst (n := (-1)) rfl ?_
      refine g_virt1 (Qc := fun r h' => r = some (.int ((Int32.ofInt (-1)))) ∧ h' = h.set 43 (rFc (bump R 1))) rfl (by decide) rfl h0 rfl (Nat.le_of_ble_eq_true rfl) (s_refuse2 (X := 1) (by omega) h0 hR rfl (by decide)) (fun r h9 hq9 => ?_)
      obtain ⟨rfl, rfl⟩ := hq9
      refine g_ireturn (ty := .int) rfl rfl rfl ?_
      exact ⟨rfl, rfl⟩
    · skip
      refine g_if_eq 27 rfl rfl (fun _ => ?_) (fun hc => absurd hc (by decide))
      refine g_aload_n (i := 0) rfl rfl ?_
      refine g_iconst (n := (-1)) rfl ?_
      refine g_virt1 (Qc := fun r h' => r = some (.int ((Int32.ofInt (-1)))) ∧ h' = h.set 43 (rFc (bump R 1))) rfl (by decide) rfl h0 rfl (Nat.le_of_ble_eq_true rfl) (s_refuse2 (X := 1) (by omega) h0 hR rfl (by decide)) (fun r h9 hq9 => ?_)
      obtain ⟨rfl, rfl⟩ := hq9
      refine g_ireturn (ty := .int) rfl rfl rfl ?_
      exact ⟨rfl, rfl⟩
theorem s_own12_go {d : Nat} {h : sHp} {m : MF} {s : Sg} {x : Int64} {i : Int32} (hd : 1 ≤ d) (M : MC h m) (gM : gdM m.1 s.1 s.2.1) : ∀ (f k : Nat), k + f = s.1 * s.2.1 → sGo none 216 d 25 [some (.ref 60), some (.long x), none, some (.int i), some (.int (Int32.ofNat k))] [] (h.set 63 (.inl (0, 64, .inl (fun q => if q < k ∧ bt x q = true then i else m.2.2.1 q)))) (fun r h' => r = some (.int (Int32.ofNat (cnt x))) ∧ h' = (h.set 63 (.inl (0, 64, .inl (fun q => if q < (s.1 * s.2.1) ∧ bt x q = true then i else m.2.2.1 q))))) := by
  have gd := gM
  obtain ⟨gw, gh, w2, w8, h2, h8⟩ := gd
  have hn := gdM_n gM
  have hw0 : (m.1 0).toInt = ((s.1 : Nat) : Int) := by rw [gw]; exact ofN_toInt (by omega)
  have hw1 : (m.1 1).toInt = ((s.2.1 : Nat) : Int) := by rw [gh]; exact ofN_toInt (by omega)
  have hwn : (m.1 0 * m.1 1).toInt = ((s.1 * s.2.1 : Nat) : Int) := n_mul hw0 hw1 (by omega)
  intro f
  induction f with
  | zero =>
    intro k hk
    have eW : s.1 * s.2.1 = k := by omega
    have ek := ofN_toInt (n := k) (by omega)
    have hr : (h.set 63 (.inl (0, 64, .inl (fun q => if q < k ∧ bt x q = true then i else m.2.2.1 q))))[60]? = some (mO m.1) := by rw [s_set_ne (by decide)]; exact M.1
    refine g_iload (i := 4) rfl rfl ?_
    refine g_aload_n (i := 0) rfl rfl ?_
    refine g_getfield (v := .int (m.1 0)) rfl hr (by decide) rfl ?_
    refine g_aload_n (i := 0) rfl rfl ?_
    refine g_getfield (v := .int (m.1 1)) rfl hr (by decide) rfl ?_
    refine g_imul rfl ?_
    refine g_icmp_ge 63 rfl rfl (fun _ => ?_) (fun hc => absurd hc (by rw [i_le, hwn, ek]; omega))
    refine g_aload_n (i := 0) rfl rfl ?_
    refine g_lload_n (i := 1) rfl rfl ?_
    refine g_virt1 rfl (by decide) rfl hr rfl (Nat.le_of_ble_eq_true rfl) (s_manyE (d := d) hd) (fun r2 h2 hq => ?_)
    obtain ⟨rfl, rfl⟩ := hq
    refine g_ireturn (ty := .int) rfl rfl rfl ?_
    exact ⟨rfl, by rw [eW]⟩
  | succ f ih =>
    intro k hk
    have ek := ofN_toInt (n := k) (by omega)
    have hr : (h.set 63 (.inl (0, 64, .inl (fun q => if q < k ∧ bt x q = true then i else m.2.2.1 q))))[60]? = some (mO m.1) := by rw [s_set_ne (by decide)]; exact M.1
    have h63 : (h.set 63 (.inl (0, 64, .inl (fun q => if q < k ∧ bt x q = true then i else m.2.2.1 q))))[63]? = some (.inl (0, 64, .inl (fun q => if q < k ∧ bt x q = true then i else m.2.2.1 q))) := s_set_eq M.2.2.1
    have ey : bt x k = true → upd (fun q => if q < k ∧ bt x q = true then i else m.2.2.1 q) k i = (fun q => if q < (k + 1) ∧ bt x q = true then i else m.2.2.1 q) := fun z => funext fun q => by
      by_cases e : q = k
      · rw [e, u_at]; exact (if_pos ⟨by omega, z⟩).symm
      · rw [u_ne e]
        by_cases l : q < k ∧ bt x q = true
        · exact (if_pos l).trans (if_pos ⟨by omega, l.2⟩).symm
        · exact (if_neg l).trans (if_neg (fun y => l ⟨by omega, y.2⟩)).symm
    have en : ¬ bt x k = true → (fun q => if q < k ∧ bt x q = true then i else m.2.2.1 q) = (fun q => if q < (k + 1) ∧ bt x q = true then i else m.2.2.1 q) := fun z => funext fun q => by
      by_cases l : q < k ∧ bt x q = true
      · exact (if_pos l).trans (if_pos ⟨by omega, l.2⟩).symm
      · refine (if_neg l).trans (if_neg (fun y => l ⟨?_, y.2⟩)).symm
        have y1 := y.1
        have : ¬ q = k := fun e => z (e ▸ y.2)
        omega
    obtain ⟨hz, ehz⟩ : ∃ z, z = (h.set 63 (.inl (0, 64, .inl (fun q => if q < k ∧ bt x q = true then i else m.2.2.1 q)))) := ⟨_, rfl⟩
    rw [← ehz] at hr h63 ⊢
    refine g_iload (i := 4) rfl rfl ?_
    refine g_aload_n (i := 0) rfl rfl ?_
    refine g_getfield (v := .int (m.1 0)) rfl hr (by decide) rfl ?_
    refine g_aload_n (i := 0) rfl rfl ?_
    refine g_getfield (v := .int (m.1 1)) rfl hr (by decide) rfl ?_
    refine g_imul rfl ?_
    refine g_icmp_ge 63 rfl rfl (fun hc => absurd hc (by rw [i_le, hwn, ek]; omega)) (fun _ => ?_)
    refine g_aload_n (i := 0) rfl rfl ?_
    refine g_lload_n (i := 1) rfl rfl ?_
    refine g_iload (i := 4) rfl rfl ?_
    refine g_virt2 (Qc := fun r h' => h' = hz ∧ r = some (.int (zI (bt x k = true)))) rfl (by decide) rfl hr rfl (Nat.le_of_ble_eq_true rfl) (s_hasE (by omega) hr (by omega)) (fun r hz hq9 => ?_)
    obtain ⟨rfl, rfl⟩ := hq9
    refine g_if_eq 57 rfl rfl (fun c_1 => ?_) (fun c_1 => ?_)
    · skip
      rw [zI_eq0] at c_1
      refine g_iinc (i := 4) (L1 := [some (.ref 60), some (.long x), none, some (.int i), some (.int ((Int32.ofNat k) + Int32.ofInt 1))]) rfl rfl rfl ?_
      rw [ofN_add (by omega)]
      refine g_goto 25 rfl rfl ?_
      rw [ehz, en c_1]
      exact ih (k + 1) (by omega)
    · skip
      rw [zI_eq0] at c_1
      replace c_1 := Classical.not_not.mp c_1
      refine g_aload_n (i := 0) rfl rfl ?_
      refine g_getfield (v := .ref 63) rfl hr (by decide) rfl ?_
      refine g_iload (i := 4) rfl rfl ?_
      refine g_iload_n (i := 3) rfl rfl ?_
      refine g_iastore (n := 64) (f := (fun q => if q < k ∧ bt x q = true then i else m.2.2.1 q)) (h1 := (h.set 63 (.inl (0, 64, .inl (fun q => if q < (k + 1) ∧ bt x q = true then i else m.2.2.1 q))))) rfl h63 (i_in (by omega) (by omega)) (by rw [i_nat ek, ehz, List.set_set, ey c_1]) ?_
      refine g_iinc (i := 4) (L1 := [some (.ref 60), some (.long x), none, some (.int i), some (.int ((Int32.ofNat k) + Int32.ofInt 1))]) rfl rfl rfl ?_
      rw [ofN_add (by omega)]
      refine g_goto 25 rfl rfl ?_
      exact ih (k + 1) (by omega)
theorem s_own12 {d : Nat} {h : sHp} {m : MF} {s : Sg} {x : Int64} {i : Int32} (hd : 4 ≤ d) (M : MC h m) (gM : gdM m.1 s.1 s.2.1) (sJ : sgJ m.1 s) (hk : ∃ k, okO s.2.2 i k) (hx : inN x (s.1 * s.2.1)) : sDo d 216 [.ref 60, .long x, .int i] h (fun r h' => r = some (.int (Int32.ofNat (cnt x))) ∧ h' = (h.set 63 (.inl (0, 64, .inl (fun q => if q < (s.1 * s.2.1) ∧ bt x q = true then i else m.2.2.1 q))))) := by
  refine sDo_of1 (nL := 5) (L := [some (.ref 60), some (.long x), none, some (.int i), none]) (by omega) rfl rfl ?_
  refine g_aload_n (i := 0) rfl rfl ?_
  refine g_lload_n (i := 1) rfl rfl ?_
  refine g_virt1 (Qc := fun r h' => h' = h ∧ (((inN x (s.1 * s.2.1)) ∧ r = some (.int 1)) ∨ (¬ (inN x (s.1 * s.2.1)) ∧ r = some (.int 0)))) rfl (by decide) rfl M.1 rfl (Nat.le_of_ble_eq_true rfl) (s_isSet12 (by omega) M.1 gM) (fun r h hq9 => ?_)
  obtain ⟨rfl, ⟨c_1, rfl⟩ | ⟨c_1, rfl⟩⟩ := hq9
  · skip
    refine g_if_eq 16 rfl rfl (fun hc => absurd hc (by decide)) (fun _ => ?_)
    refine g_aload_n (i := 0) rfl rfl ?_
    refine g_iload_n (i := 3) rfl rfl ?_
    refine g_virt1 (Qc := fun r h' => h' = h ∧ (((∃ k, okO s.2.2 i k) ∧ r = some (.int 1)) ∨ (¬ (∃ k, okO s.2.2 i k) ∧ r = some (.int 0)))) rfl (by decide) rfl M.1 rfl (Nat.le_of_ble_eq_true rfl) (s_isOwn12 (by omega) M sJ) (fun r h hq9 => ?_)
    obtain ⟨rfl, ⟨c_2, rfl⟩ | ⟨c_2, rfl⟩⟩ := hq9
    · skip
      refine g_if_ne 22 rfl rfl (fun _ => ?_) (fun hc => absurd hc (by decide))
      refine g_iconst (n := 0) rfl ?_
      refine g_istore (i := 4) (L1 := [some (.ref 60), some (.long x), none, some (.int i), some (.int (Int32.ofInt 0))]) rfl (Nat.le_of_ble_eq_true rfl) rfl ?_
      have e0 : h = (h.set 63 (.inl (0, 64, .inl (fun q => if q < 0 ∧ bt x q = true then i else m.2.2.1 q)))) := List.ext_getElem? (fun j => by
        by_cases e : j = 63
        · rw [e, s_set_eq M.2.2.1, M.2.2.1]
          exact congrArg (fun f => (some (.inl (0, 64, .inl f)) : Option va_E)) (funext fun q => (if_neg (fun z => Nat.not_lt_zero q z.1)).symm)
        · rw [s_set_ne (Ne.symm e)])
      have key := s_own12_go (d := d - 1) (x := x) (i := i) (by omega) M gM (s.1 * s.2.1) 0 (Nat.zero_add _)
      rw [← e0] at key
      exact key
    · skip
      exact absurd hk c_2
  · skip
    exact absurd hx c_1
theorem s_own12n {d : Nat} {h : sHp} {R : Nat → Int32} {m : MF} {s : Sg} {x : Int64} {i : Int32} (hd : 4 ≤ d) (M : MC h m) (hR : h[61]? = some (rFc R)) (gM : gdM m.1 s.1 s.2.1) (sJ : sgJ m.1 s) (hno : ¬ ((∃ k, okO s.2.2 i k) ∧ inN x (s.1 * s.2.1))) : sDo d 216 [.ref 60, .long x, .int i] h (fun r h' => r = some (.int (-1)) ∧ h' = h.set 61 (rFc (bump R 1))) := by
  refine sDo_of1 (nL := 5) (L := [some (.ref 60), some (.long x), none, some (.int i), none]) (by omega) rfl rfl ?_
  refine g_aload_n (i := 0) rfl rfl ?_
  refine g_lload_n (i := 1) rfl rfl ?_
  refine g_virt1 (Qc := fun r h' => h' = h ∧ (((inN x (s.1 * s.2.1)) ∧ r = some (.int 1)) ∨ (¬ (inN x (s.1 * s.2.1)) ∧ r = some (.int 0)))) rfl (by decide) rfl M.1 rfl (Nat.le_of_ble_eq_true rfl) (s_isSet12 (by omega) M.1 gM) (fun r h hq9 => ?_)
  obtain ⟨rfl, ⟨c_1, rfl⟩ | ⟨c_1, rfl⟩⟩ := hq9
  · skip
    refine g_if_eq 16 rfl rfl (fun hc => absurd hc (by decide)) (fun _ => ?_)
    refine g_aload_n (i := 0) rfl rfl ?_
    refine g_iload_n (i := 3) rfl rfl ?_
    refine g_virt1 (Qc := fun r h' => h' = h ∧ (((∃ k, okO s.2.2 i k) ∧ r = some (.int 1)) ∨ (¬ (∃ k, okO s.2.2 i k) ∧ r = some (.int 0)))) rfl (by decide) rfl M.1 rfl (Nat.le_of_ble_eq_true rfl) (s_isOwn12 (by omega) M sJ) (fun r h hq9 => ?_)
    obtain ⟨rfl, ⟨c_2, rfl⟩ | ⟨c_2, rfl⟩⟩ := hq9
    · skip
      exact absurd ⟨c_2, c_1⟩ hno
    · skip
      refine g_if_ne 22 rfl rfl (fun hc => absurd hc (by decide)) (fun _ => ?_)
      refine g_aload_n (i := 0) rfl rfl ?_
      refine g_iconst (n := (-1)) rfl ?_
      refine g_virt1 (Qc := fun r h' => r = some (.int ((Int32.ofInt (-1)))) ∧ h' = h.set 61 (rFc (bump R 1))) rfl (by decide) rfl M.1 rfl (Nat.le_of_ble_eq_true rfl) (s_no2 (X := 1) (by omega) M.1 hR rfl (by decide)) (fun r h9 hq9 => ?_)
      obtain ⟨rfl, rfl⟩ := hq9
      refine g_ireturn (ty := .int) rfl rfl rfl ?_
      exact ⟨rfl, rfl⟩
  · skip
    refine g_if_eq 16 rfl rfl (fun _ => ?_) (fun hc => absurd hc (by decide))
    refine g_aload_n (i := 0) rfl rfl ?_
    refine g_iconst (n := (-1)) rfl ?_
    refine g_virt1 (Qc := fun r h' => r = some (.int ((Int32.ofInt (-1)))) ∧ h' = h.set 61 (rFc (bump R 1))) rfl (by decide) rfl M.1 rfl (Nat.le_of_ble_eq_true rfl) (s_no2 (X := 1) (by omega) M.1 hR rfl (by decide)) (fun r h9 hq9 => ?_)
    obtain ⟨rfl, rfl⟩ := hq9
    refine g_ireturn (ty := .int) rfl rfl rfl ?_
    exact ⟨rfl, rfl⟩
theorem sg_one {h : sHp} {c c' : CF} {s s' : Sg} (a : FC h 5 c) (b : FC h 5 c') (sI : sgI c s) (sI' : sgI c' s') : s'.1 * s'.2.1 = s.1 * s.2.1 := by
  have e := b.1.symm.trans a.1
  have e0 : c'.1 0 = c.1 0 := by
    unfold fO at e
    simp only [Option.some.injEq, Sum.inr.injEq, Prod.mk.injEq, List.cons.injEq, Value.int.injEq] at e
    exact e.2.1
  have e1 : c'.1 1 = c.1 1 := by
    unfold fO at e
    simp only [Option.some.injEq, Sum.inr.injEq, Prod.mk.injEq, List.cons.injEq, Value.int.injEq] at e
    exact e.2.2.1
  have a5 := sI.2.2.2.2.1
  have a7 := sI.2.2.2.2.2.2.1
  have b5 := sI'.2.2.2.2.1
  have b7 := sI'.2.2.2.2.2.2.1
  have k0 : s'.1 = s.1 := ofN_inj (by omega) (by omega) (sI'.1.symm.trans (e0.trans sI.1))
  have k1 : s'.2.1 = s.2.1 := ofN_inj (by omega) (by omega) (sI'.2.1.symm.trans (e1.trans sI.2.1))
  rw [k0, k1]
theorem pr9_own (x : Int64) (i : Int32) : pairR bR9 133 216 [.long x, .int i] := pr_wR (c1 := cn_X11_own_0) (c2 := cn_X12_own_0) ch_X11_own_0 ch_X12_own_0 (by decide +kernel) (by decide +kernel) (by decide +kernel) (by decide +kernel) rfl rfl (fun h hH => ⟨bt0 hH, vL0 x, vI0 i, trivial⟩) (fun h hH => ⟨bt60 hH, vL0 x, vI0 i, trivial⟩) (by decide +kernel) (by decide +kernel) (fun h hH hR => by
  obtain ⟨⟨hd, so, sz, co, cl, f, gg, q4, bs⟩, c, ck, m, gk, ik, tf, kc, km, ej, rl, rk⟩ := hR
  have F := kc.1
  have h0 := kc.2.2.1
  have M := km.1
  obtain ⟨R, hR43⟩ := RA_of hH (p := 43) (Or.inl rfl)
  obtain ⟨s, sI, sJ, g, gM⟩ := RN_sg rl.1.1
  have n5 := sI.2.2.2.2.2.2.2
  have hn := gdF_n g
  have PO := rl.2 s sI
  have gd := gM
  obtain ⟨-, -, w2, w8, -, h8⟩ := gd
  by_cases hk : (∃ k, okO s.2.2 i k) ∧ inN x (s.1 * s.2.1)
  · obtain ⟨⟨k, hk⟩, hx⟩ := hk
    have k7 := okO_c n5 hk
    refine ⟨_, giveS c.2.2.2.2.2.2 7 x k, (fun q => if q < (s.1 * s.2.1) ∧ bt x q = true then i else m.2.2.1 q), fun c' m' s' r' F' M' sI' => ?_, sDo_mono (s_own11 (d := 10) (by omega) h0 F g sI hk hx) (fun r h' q => ⟨q.1, by rw [q.2]; exact s_set_eq F.2.2.2.2.2.2, by rw [q.2]; exact vO_15 vO_rfl⟩), fun h1 hH1 E => sDo_mono (s_own12 (d := 10) (by omega) (MC_vO M E) gM sJ ⟨k, hk⟩ hx) (fun r h' q => ⟨q.1, by rw [q.2]; exact s_set_eq (MC_vO M E).2.2.1⟩)⟩
    have P' := r'.2 s' sI'
    rw [FC_one F F', MC_one M M'] at P'
    have es : s'.1 * s'.2.1 = s.1 * s.2.1 := sg_one F F' sI sI'
    rw [es] at P' ⊢
    refine PT_give (P := fun q => bt x q) hn.1 k7.1 (bt_ext (fun q hq => ?_)) (fun q hq => ?_) P'
    · rw [bt_stO _ _ hn.1]
      by_cases z : bt x q = true
      · rw [z, decide_eq_true (hx q hq z)]; rfl
      · rw [nTF z, Bool.and_false]
    · show (if q < s.1 * s.2.1 ∧ bt x q = true then i else m.2.2.1 q) = _
      by_cases z : bt x q = true
      · rw [if_pos ⟨hq, z⟩, if_pos z]; exact k7.2
      · rw [if_neg (fun y => z y.2), if_neg z]
  · refine ⟨_, c.2.2.2.2.2.2, m.2.2.1, fun c' m' s' r' F' M' sI' => ?_, sDo_mono (s_own11n (d := 10) (by omega) h0 hR43 F g sI hk) (fun r h' q => ⟨q.1, by rw [q.2, s_set_ne (by decide)]; exact F.2.2.2.2.2.2, by rw [q.2]; exact vO_43 vO_rfl (by decide)⟩), fun h1 hH1 E => ?_⟩
    · have P' := r'.2 s' sI'
      rw [FC_one F F', MC_one M M'] at P'
      exact P'
    · obtain ⟨Rm, hRm⟩ := RA_of hH1 (p := 61) (Or.inr rfl)
      exact sDo_mono (s_own12n (d := 10) (by omega) (MC_vO M E) hRm gM sJ hk) (fun r h' q => ⟨q.1, by rw [q.2, s_set_ne (by decide)]; exact (MC_vO M E).2.2.1⟩))
end
section
/-! ===== mend ===== -/
def mdG (t : Option (Nat × Nat)) (r0 r1 : Nat × (Nat → Int32)) : Nat × (Nat → Int32) := match t with
  | none => r0
  | some _ => (r1.1 + 1, r1.2)
def cdA (t : T3) : Nat := match t.1 with
  | none => 0
  | some (a, _) => a
noncomputable def mdW (m : MF) (s : Sg) : Nat → (Nat → Int32) → Nat × (Nat → Int32)
  | 0, ow => (0, ow)
  | f + 1, ow => mdG (btA m s ow).1 (0, ow) (mdW m s f (owC ow (cdA (btA m s ow) / 10) (cdA (btA m s ow) % 10)))
noncomputable def mdS (m : MF) (s : Sg) : Nat → (Nat → Int32) → (Nat → Int64) → (Nat → Int64)
  | 0, _, S => S
  | f + 1, ow, S => if (btA m s ow).1 = none then S else mdS m s f (owC ow (cdA (btA m s ow) / 10) (cdA (btA m s ow) % 10)) (giveS S 7 (Int64.ofNat 1 <<< ((Int32.ofNat (cdA (btA m s ow) / 10)).toInt64 &&& 63)) (cdA (btA m s ow) % 10))
theorem cdA_p {m : MF} {s : Sg} {ow : Nat → Int32} (hn : s.1 * s.2.1 ≤ 64) (hN : s.2.2 ≤ 5) (h : ¬ (btA m s ow).1 = none) : cdT (btA m s ow) = Int32.ofNat (cdA (btA m s ow)) ∧ cdA (btA m s ow) / 10 < s.1 * s.2.1 ∧ cdA (btA m s ow) % 10 < s.2.2 ∧ cdA (btA m s ow) < 1000 := by
  have p := (btA_p (m := m) (ow := ow) hn).2
  generalize btA m s ow = t at p h ⊢
  obtain ⟨t1, t2⟩ := t
  rcases t1 with _ | ⟨a, c⟩
  · exact absurd rfl h
  · obtain ⟨q, k, rfl, hq, hk⟩ := p a c rfl
    refine ⟨rfl, ?_, ?_, ?_⟩
    · show (10 * q + k) / 10 < _; omega
    · show (10 * q + k) % 10 < _; omega
    · show 10 * q + k < 1000; omega
theorem mdW_n {m : MF} {s : Sg} {ow : Nat → Int32} {f : Nat} (h : (btA m s ow).1 = none) : mdW m s (f + 1) ow = (0, ow) := by
  show mdG (btA m s ow).1 _ _ = _
  rw [h]
  rfl
theorem mdW_s {m : MF} {s : Sg} {ow : Nat → Int32} {f : Nat} (h : ¬ (btA m s ow).1 = none) : mdW m s (f + 1) ow = ((mdW m s f (owC ow (cdA (btA m s ow) / 10) (cdA (btA m s ow) % 10))).1 + 1, (mdW m s f (owC ow (cdA (btA m s ow) / 10) (cdA (btA m s ow) % 10))).2) := by
  show mdG (btA m s ow).1 _ _ = _
  cases e : (btA m s ow).1 with
  | none => exact absurd e h
  | some p => rfl
theorem mdW_le {m : MF} {s : Sg} : ∀ (f : Nat) (ow : Nat → Int32), (mdW m s f ow).1 ≤ f := by
  intro f
  induction f with
  | zero => intro ow; exact Nat.le_refl _
  | succ f ih =>
    intro ow
    by_cases z : (btA m s ow).1 = none
    · rw [mdW_n z]; exact Nat.zero_le _
    · rw [mdW_s z]; exact Nat.succ_le_succ (ih _)
theorem PT_chg0 {S : Nat → Int64} {ow : Nat → Int32} {n q k : Nat} (hn : n ≤ 64) (P : PT S ow n) (hq : q < n) (hk : k < 5) : PT (giveS S 7 (Int64.ofNat 1 <<< ((Int32.ofNat q).toInt64 &&& 63)) k) (owC ow q k) n := by
  refine PT_give (P := fun z => decide (z = q)) hn (by omega) (bt_ext (fun i hi => ?_)) (fun z _ => ?_) P
  · rw [bt_one (by omega), bt_stO _ _ hn]
    by_cases e : i = q
    · rw [e, decide_eq_true rfl, decide_eq_true hq]; rfl
    · rw [decide_eq_false e, Bool.and_false]
  · unfold owC
    by_cases e : z = q
    · rw [if_pos e, if_pos (decide_eq_true e), cdS_lt hk]
    · rw [if_neg e, if_neg (fun y => e (of_decide_eq_true y))]
theorem md_PT {m : MF} {s : Sg} (hn : s.1 * s.2.1 ≤ 64) (hN : s.2.2 ≤ 5) : ∀ (f : Nat) (ow : Nat → Int32) (S : Nat → Int64), PT S ow (s.1 * s.2.1) → PT (mdS m s f ow S) (mdW m s f ow).2 (s.1 * s.2.1) := by
  intro f
  induction f with
  | zero => intro ow S P; exact P
  | succ f ih =>
    intro ow S P
    by_cases z : (btA m s ow).1 = none
    · rw [mdW_n z, show mdS m s (f + 1) ow S = S from if_pos z]; exact P
    · have p := cdA_p hn hN z
      rw [mdW_s z, show mdS m s (f + 1) ow S = _ from if_neg z]
      exact ih _ _ (PT_chg0 hn P p.2.1 (by omega))
def cw (c : CF) (S : Nat → Int64) : CF := (c.1, c.2.1, c.2.2.1, c.2.2.2.1, c.2.2.2.2.1, c.2.2.2.2.2.1, S)
theorem FC_15 {h : sHp} {c : CF} {S S' : Nat → Int64} (F : FC h 5 (cw c S)) : FC (h.set 15 (.inl (1, 7, .inr (.inl S')))) 5 (cw c S') := by
  obtain ⟨a0, a1, a2, ⟨f, a3, a4⟩, a5, a6, a7⟩ := F
  refine ⟨by rw [s_set_ne (by decide)]; exact a0, by rw [s_set_ne (by decide)]; exact a1, by rw [s_set_ne (by decide)]; exact a2, ⟨f, by rw [s_set_ne (by decide)]; exact a3, a4⟩, fun k hk => ?_, by rw [s_set_ne (by decide)]; exact a6, s_set_eq a7⟩
  rw [s_set_ne (by omega)]
  exact a5 k hk
theorem s_mend11_go {d : Nat} {h0 : sHp} {ik tf : Int32} {c : CF} {m : MF} {s : Sg} {S1 S2 : Int64} {n : Nat} (hd : 9 ≤ d) (g : gdF c s.1 s.2.1) (r : RB c m) (sI : sgI c s) (hn20 : n ≤ 20) : ∀ (f k : Nat) (ow : Nat → Int32) (S T : Nat → Int64) (B : Nat → Int32) (h : sHp) (o3 : Option Value), k + f = n → h[0]? = some (cO ik tf) → FC h 5 (cw c S) → PT S ow (s.1 * s.2.1) → h[38]? = some (sO B S1 S2) → h[41]? = some (.inl (1, 7, .inr (.inl T))) → vO h0 h → sGo none 147 d 20 [some (.ref 0), some (.int (Int32.ofNat n)), some (.int (Int32.ofNat k)), o3] [] h (fun rv h' => rv = some (.int (Int32.ofNat (k + (mdW m s f ow).1))) ∧ h'[15]? = some (.inl (1, 7, .inr (.inl (mdS m s f ow S)))) ∧ vO h0 h') := by
  have hn := gdF_n g
  have n5 := sI.2.2.2.2.2.2.2
  have en := ofN_toInt (n := n) (by omega)
  intro f
  induction f with
  | zero =>
    intro k ow S T B h o3 hk z0 F P hS h41 E
    have ek := ofN_toInt (n := k) (by omega)
    have kn : k = n := by omega
    refine g_iload_n (i := 2) rfl rfl ?_
    refine g_iload_n (i := 1) rfl rfl ?_
    refine g_icmp_ge 75 rfl rfl (fun _ => ?_) (fun hc => absurd hc (by rw [i_le, ek, en]; omega))
    refine g_iload_n (i := 1) rfl rfl ?_
    refine g_ireturn (ty := .int) rfl rfl rfl ?_
    exact ⟨by rw [kn]; rfl, F.2.2.2.2.2.2, E⟩
  | succ f ih =>
    intro k ow S T B h o3 hk z0 F P hS h41 E
    have ek := ofN_toInt (n := k) (by omega)
    have r' : RB (cw c S) m := RB_no c m S m.2.2.1 r
    have hc := cdT_no hn.1 n5 (btA_p (m := m) (ow := ow) hn.1).2
    refine g_iload_n (i := 2) rfl rfl ?_
    refine g_iload_n (i := 1) rfl rfl ?_
    refine g_icmp_ge 75 rfl rfl (fun hc => absurd hc (by rw [i_le, ek, en]; omega)) (fun _ => ?_)
    refine g_aload_n (i := 0) rfl rfl ?_
    refine g_getfield (v := .ref 38) rfl z0 (by decide) rfl ?_
    refine g_aload_n (i := 0) rfl rfl ?_
    refine g_getfield (v := .ref 5) rfl z0 (by decide) rfl ?_
    refine g_virt1 rfl (by decide) rfl hS rfl (Nat.le_of_ble_eq_true rfl) (s_change11 (d := d) (m := m) (c := cw c S) hd F g r' sI P hS h41) (fun rv hz hq => ?_)
    obtain ⟨rfl, Ez, B2, T2, hS2, h412⟩ := hq
    have z02 := (Ez.2 0 (by decide)).trans z0
    have F2 : FC hz 5 (cw c S) := FC_tr F (fun q x h1 h2 hx => (Ez.2 q (by omega)).trans hx)
    have E2 : vO h0 hz := ⟨Ez.1.trans E.1, fun q a b => (Ez.2 q (by omega)).trans (E.2 q a b)⟩
    refine g_istore_n (i := 3) (L1 := [some (.ref 0), some (.int (Int32.ofNat n)), some (.int (Int32.ofNat k)), some (.int (cdT (btA m s ow)))]) rfl (Nat.le_of_ble_eq_true rfl) rfl ?_
    refine g_iload_n (i := 3) rfl rfl ?_
    refine g_iconst (n := (-1)) rfl ?_
    refine g_icmp_ne 44 rfl rfl (fun c_1 => ?_) (fun c_1 => ?_)
    · skip
      have nz : ¬ (btA m s ow).1 = none := fun z => c_1 (hc.mpr z)
      have pp := cdA_p hn.1 n5 nz
      rw [pp.1]
      rw [mdW_s nz, show mdS m s (f + 1) ow S = _ from if_neg nz]
      have ec := ofN_toInt (n := (cdA (btA m s ow))) (by omega)
      have eq10 : Int32.ofNat (cdA (btA m s ow)) / (Int8.ofInt 10).toInt32 = Int32.ofNat ((cdA (btA m s ow)) / 10) := Int32.toInt_inj.mp (by rw [n_div ec (show (Int8.ofInt 10).toInt32.toInt = ((10 : Nat) : Int) from rfl) (by decide), ofN_toInt (by omega)])
      have er10 : Int32.ofNat (cdA (btA m s ow)) - Int32.ofNat (cdA (btA m s ow)) / (Int8.ofInt 10).toInt32 * (Int8.ofInt 10).toInt32 = Int32.ofNat ((cdA (btA m s ow)) % 10) := Int32.toInt_inj.mp (by rw [n_rem ec (show (Int8.ofInt 10).toInt32.toInt = ((10 : Nat) : Int) from rfl) (by decide), ofN_toInt (by omega)])
      have ek10 := ofN_toInt (n := (cdA (btA m s ow)) % 10) (by omega)
      refine g_aload_n (i := 0) rfl rfl ?_
      refine g_getfield (v := .ref 5) rfl z02 (by decide) rfl ?_
      refine g_getfield (v := .ref (5 + 10)) rfl F2.1 (by decide) rfl ?_
      refine g_aload_n (i := 0) rfl rfl ?_
      refine g_getfield (v := .ref 5) rfl z02 (by decide) rfl ?_
      refine g_iload_n (i := 3) rfl rfl ?_
      refine g_bipush (n := 10) rfl ?_
      refine g_idiv rfl (by decide) ?_
      rw [eq10]
      refine g_virt1 rfl (by decide) rfl F2.1 rfl (Nat.le_of_ble_eq_true rfl) (s_only8 (d := d) (c := cw c S) (by omega) F2 g pp.2.1) (fun r9 h9 hq9 => ?_)
      obtain ⟨rfl, rfl⟩ := hq9
      refine g_iload_n (i := 3) rfl rfl ?_
      refine g_bipush (n := 10) rfl ?_
      refine g_irem rfl (by decide) ?_
      rw [er10]
      refine g_static3 (Qc := fun r h' => r = none ∧ h' = h9.set 15 (.inl (1, 7, .inr (.inl (giveS S 7 (Int64.ofNat 1 <<< ((Int32.ofNat ((cdA (btA m s ow)) / 10)).toInt64 &&& 63)) ((cdA (btA m s ow)) % 10)))))) rfl (by decide) rfl (Nat.le_of_ble_eq_true rfl) (by rw [show d = (d - 1) + 1 by omega]; exact s_give (d := d - 1) F2.2.2.2.2.2.2 (by decide) ek10 (by omega)) (fun r2 hb hq => ?_)
      obtain ⟨rfl, rfl⟩ := hq
      have F3 := FC_15 (S' := (giveS S 7 (Int64.ofNat 1 <<< ((Int32.ofNat ((cdA (btA m s ow)) / 10)).toInt64 &&& 63)) ((cdA (btA m s ow)) % 10))) F2
      have key := ih (k + 1) _ _ T2 B2 _ (some (.int (Int32.ofNat (cdA (btA m s ow))))) (by omega) (by rw [s_set_ne (by decide)]; exact z02) F3 (PT_chg0 hn.1 P pp.2.1 (show (cdA (btA m s ow)) % 10 < 5 by omega)) (by rw [s_set_ne (by decide)]; exact hS2) (by rw [s_set_ne (by decide)]; exact h412) (vO_15 E2)
      refine g_iinc (i := 2) (L1 := [some (.ref 0), some (.int (Int32.ofNat n)), some (.int (Int32.ofNat k + Int32.ofInt 1)), some (.int (Int32.ofNat (cdA (btA m s ow))))]) rfl rfl rfl ?_
      rw [ofN_add (by omega)]
      refine g_goto 20 rfl rfl ?_
      rw [show k + 1 + (mdW m s f (owC ow ((cdA (btA m s ow)) / 10) ((cdA (btA m s ow)) % 10))).1 = k + ((mdW m s f (owC ow ((cdA (btA m s ow)) / 10) ((cdA (btA m s ow)) % 10))).1 + 1) by omega] at key
      exact key
    · skip
      have zz := hc.mp c_1
      rw [mdW_n zz, show mdS m s (f + 1) ow S = S from if_pos zz]
      refine g_iload_n (i := 2) rfl rfl ?_
      refine g_ireturn (ty := .int) rfl rfl rfl ?_
      exact ⟨rfl, F2.2.2.2.2.2.2, E2⟩
theorem s_mend11 {d : Nat} {h : sHp} {ik tf : Int32} {c : CF} {m : MF} {s : Sg} {B : Nat → Int32} {S1 S2 : Int64} {T : Nat → Int64} {n : Nat} {ow : Nat → Int32} (hd : 10 ≤ d) (h0 : h[0]? = some (cO ik tf)) (F : FC h 5 c) (g : gdF c s.1 s.2.1) (r : RB c m) (sI : sgI c s) (P : PT c.2.2.2.2.2.2 ow (s.1 * s.2.1)) (hS : h[38]? = some (sO B S1 S2)) (h41 : h[41]? = some (.inl (1, 7, .inr (.inl T)))) (h1 : 1 ≤ n) (h20 : n ≤ 20) : sDo d 147 [.ref 0, .int (Int32.ofNat n)] h (fun rv h' => rv = some (.int (Int32.ofNat (mdW m s n ow).1)) ∧ h'[15]? = some (.inl (1, 7, .inr (.inl (mdS m s n ow c.2.2.2.2.2.2)))) ∧ vO h h') := by
  have en := ofN_toInt (n := n) (by omega)
  refine sDo_of1 (nL := 4) (L := [some (.ref 0), some (.int (Int32.ofNat n)), none, none]) (by omega) rfl rfl ?_
  refine g_iload_n (i := 1) rfl rfl ?_
  refine g_iconst (n := 1) rfl ?_
  have k_2 : (Int32.ofInt 1).toInt = 1 := rfl
  refine g_icmp_lt 11 rfl rfl (fun c_1 => ?_) (fun c_1 => ?_)
  · skip
    rw [i_lt, en, k_2] at c_1
    exfalso; omega
  · skip
    rw [i_lt, en, k_2] at c_1
    refine g_iload_n (i := 1) rfl rfl ?_
    refine g_bipush (n := 20) rfl ?_
    have k_4 : ((Int8.ofInt 20).toInt32).toInt = 20 := rfl
    refine g_icmp_le 18 rfl rfl (fun c_3 => ?_) (fun c_3 => ?_)
    · skip
      rw [i_le, en, k_4] at c_3
      refine g_iconst (n := 0) rfl ?_
      refine g_istore_n (i := 2) (L1 := [some (.ref 0), some (.int (Int32.ofNat n)), some (.int (Int32.ofInt 0)), none]) rfl (Nat.le_of_ble_eq_true rfl) rfl ?_
      have key := s_mend11_go (d := d - 1) (h0 := h) (c := c) (S1 := S1) (S2 := S2) (by omega) g r sI h20 n 0 ow c.2.2.2.2.2.2 T B h none (Nat.zero_add _) h0 F P hS h41 vO_rfl
      rw [Nat.zero_add] at key
      exact key
    · skip
      rw [i_le, en, k_4] at c_3
      exfalso; omega
theorem s_mend11n {d : Nat} {h : sHp} {ik tf : Int32} {R : Nat → Int32} {x : Int32} (hd : 3 ≤ d) (h0 : h[0]? = some (cO ik tf)) (hR : h[43]? = some (rFc R)) (hx : ¬ (1 ≤ x.toInt ∧ x.toInt ≤ 20)) : sDo d 147 [.ref 0, .int x] h (fun r h' => r = some (.int (-6)) ∧ h' = h.set 43 (rFc (bump R 6))) := by
  refine sDo_of1 (nL := 4) (L := [some (.ref 0), some (.int x), none, none]) (by omega) rfl rfl ?_
  refine g_iload_n (i := 1) rfl rfl ?_
  refine g_iconst (n := 1) rfl ?_
  have k_2 : (Int32.ofInt 1).toInt = 1 := rfl
  refine g_icmp_lt 11 rfl rfl (fun c_1 => ?_) (fun c_1 => ?_)
  · skip
    rw [i_lt, k_2] at c_1
    refine g_aload_n (i := 0) rfl rfl ?_
    refine g_bipush (n := (-6)) rfl ?_
    refine g_virt1 (Qc := fun r h' => r = some (.int ((Int8.ofInt (-6)).toInt32)) ∧ h' = h.set 43 (rFc (bump R 6))) rfl (by decide) rfl h0 rfl (Nat.le_of_ble_eq_true rfl) (s_refuse2 (X := 6) (by omega) h0 hR rfl (by decide)) (fun r h9 hq9 => ?_)
    obtain ⟨rfl, rfl⟩ := hq9
    refine g_ireturn (ty := .int) rfl rfl rfl ?_
    exact ⟨rfl, rfl⟩
  · skip
    rw [i_lt, k_2] at c_1
    refine g_iload_n (i := 1) rfl rfl ?_
    refine g_bipush (n := 20) rfl ?_
    have k_4 : ((Int8.ofInt 20).toInt32).toInt = 20 := rfl
    refine g_icmp_le 18 rfl rfl (fun c_3 => ?_) (fun c_3 => ?_)
    · skip
      rw [i_le, k_4] at c_3
      exfalso; omega
    · skip
      rw [i_le, k_4] at c_3
      refine g_aload_n (i := 0) rfl rfl ?_
      refine g_bipush (n := (-6)) rfl ?_
      refine g_virt1 (Qc := fun r h' => r = some (.int ((Int8.ofInt (-6)).toInt32)) ∧ h' = h.set 43 (rFc (bump R 6))) rfl (by decide) rfl h0 rfl (Nat.le_of_ble_eq_true rfl) (s_refuse2 (X := 6) (by omega) h0 hR rfl (by decide)) (fun r h9 hq9 => ?_)
      obtain ⟨rfl, rfl⟩ := hq9
      refine g_ireturn (ty := .int) rfl rfl rfl ?_
      exact ⟨rfl, rfl⟩
theorem s_mend12_go {d : Nat} {hb : sHp} {c : CF} {m : MF} {s : Sg} {n : Nat} (hd : 7 ≤ d) (M : MC hb m) (gM : gdM m.1 s.1 s.2.1) (g : gdF c s.1 s.2.1) (r : RB c m) (sI : sgI c s) (sJ : sgJ m.1 s) (hn20 : n ≤ 20) : ∀ (f k : Nat) (J ow : Nat → Int32) (h : sHp) (o3 : Option Value), k + f = n → rX hb h J ow → jE m.1 J → (∀ q, q < s.1 * s.2.1 → ∃ k, k < 7 ∧ ow q = cdS k) → sGo none 242 d 20 [some (.ref 60), some (.int (Int32.ofNat n)), some (.int (Int32.ofNat k)), o3] [] h (fun rv h' => rv = some (.int (Int32.ofNat (k + (mdW m s f ow).1))) ∧ h'[63]? = some (.inl (0, 64, .inl (mdW m s f ow).2))) := by
  have hn := gdF_n g
  have n5 := sI.2.2.2.2.2.2.2
  have en := ofN_toInt (n := n) (by omega)
  intro f
  induction f with
  | zero =>
    intro k J ow h o3 hk X hJ ho
    have ek := ofN_toInt (n := k) (by omega)
    have kn : k = n := by omega
    have hr := X.1
    refine g_iload_n (i := 2) rfl rfl ?_
    refine g_iload_n (i := 1) rfl rfl ?_
    refine g_icmp_ge 56 rfl rfl (fun _ => ?_) (fun hc => absurd hc (by rw [i_le, ek, en]; omega))
    refine g_iload_n (i := 1) rfl rfl ?_
    refine g_ireturn (ty := .int) rfl rfl rfl ?_
    exact ⟨by rw [kn]; rfl, X.2.1⟩
  | succ f ih =>
    intro k J ow h o3 hk X hJ ho
    have ek := ofN_toInt (n := k) (by omega)
    have hr := X.1
    have hj7 : ∀ j, j < 7 → J j = m.1 j := fun j hj => hJ j (by omega) (by omega) (by omega) (by omega)
    have M1 : MC h (mo m J ow) := rX_MC X M
    have hc := cdT_no hn.1 n5 (btA_p (m := m) (ow := ow) hn.1).2
    refine g_iload_n (i := 2) rfl rfl ?_
    refine g_iload_n (i := 1) rfl rfl ?_
    refine g_icmp_ge 56 rfl rfl (fun hc => absurd hc (by rw [i_le, ek, en]; omega)) (fun _ => ?_)
    refine g_aload_n (i := 0) rfl rfl ?_
    refine g_virt0 rfl (by decide) rfl hr rfl (Nat.le_of_ble_eq_true rfl) (s_betd12 (d := d) (m := m) (Jb := J) (ow := ow) (c := c) (by omega) M1 hj7 gM g r sI sJ ho) (fun rv hz hq => ?_)
    obtain ⟨rfl, J2, X2, hJ2⟩ := hq
    refine g_istore_n (i := 3) (L1 := [some (.ref 60), some (.int (Int32.ofNat n)), some (.int (Int32.ofNat k)), some (.int (cdT (btA m s ow)))]) rfl (Nat.le_of_ble_eq_true rfl) rfl ?_
    refine g_iload_n (i := 3) rfl rfl ?_
    refine g_iconst (n := (-1)) rfl ?_
    refine g_icmp_ne 37 rfl rfl (fun c_1 => ?_) (fun c_1 => ?_)
    · skip
      have nz : ¬ (btA m s ow).1 = none := fun z => c_1 (hc.mpr z)
      have pp := cdA_p hn.1 n5 nz
      rw [pp.1]
      rw [mdW_s nz]
      have ec := ofN_toInt (n := (cdA (btA m s ow))) (by omega)
      have eq10 : Int32.ofNat (cdA (btA m s ow)) / (Int8.ofInt 10).toInt32 = Int32.ofNat ((cdA (btA m s ow)) / 10) := Int32.toInt_inj.mp (by rw [n_div ec (show (Int8.ofInt 10).toInt32.toInt = ((10 : Nat) : Int) from rfl) (by decide), ofN_toInt (by omega)])
      have er10 : Int32.ofNat (cdA (btA m s ow)) - Int32.ofNat (cdA (btA m s ow)) / (Int8.ofInt 10).toInt32 * (Int8.ofInt 10).toInt32 = Int32.ofNat ((cdA (btA m s ow)) % 10) := Int32.toInt_inj.mp (by rw [n_rem ec (show (Int8.ofInt 10).toInt32.toInt = ((10 : Nat) : Int) from rfl) (by decide), ofN_toInt (by omega)])
      have eq1 := ofN_toInt (n := (cdA (btA m s ow)) / 10) (by omega)
      refine g_aload_n (i := 0) rfl rfl ?_
      refine g_getfield (v := .ref 63) rfl X2.1 (by decide) rfl ?_
      refine g_iload_n (i := 3) rfl rfl ?_
      refine g_bipush (n := 10) rfl ?_
      refine g_idiv rfl (by decide) ?_
      refine g_iload_n (i := 3) rfl rfl ?_
      refine g_bipush (n := 10) rfl ?_
      refine g_irem rfl (by decide) ?_
      rw [er10, eq10]
      refine g_iastore (n := 64) (f := ow) (h1 := hz.set 63 (.inl (0, 64, .inl (owC ow ((cdA (btA m s ow)) / 10) ((cdA (btA m s ow)) % 10))))) rfl X2.2.1 (i_in (by omega) (by omega)) (by rw [i_nat eq1, owC_u]) ?_
      have X3 := rX_ow (ow' := owC ow ((cdA (btA m s ow)) / 10) ((cdA (btA m s ow)) % 10)) (show rX hb hz J2 ow from ⟨X2.1, X2.2.1, X2.2.2.1.trans X.2.2.1, fun q a b => (X2.2.2.2 q a b).trans (X.2.2.2 q a b)⟩)
      have key := ih (k + 1) J2 _ _ (some (.int (Int32.ofNat (cdA (btA m s ow))))) (by omega) X3 (jE_tr hJ hJ2) (fun q hq => by
        unfold owC
        by_cases e : q = (cdA (btA m s ow)) / 10
        · rw [if_pos e]; exact ⟨(cdA (btA m s ow)) % 10, by omega, (cdS_lt (by omega)).symm⟩
        · rw [if_neg e]; exact ho q hq)
      refine g_iinc (i := 2) (L1 := [some (.ref 60), some (.int (Int32.ofNat n)), some (.int (Int32.ofNat k + Int32.ofInt 1)), some (.int (Int32.ofNat (cdA (btA m s ow))))]) rfl rfl rfl ?_
      rw [ofN_add (by omega)]
      refine g_goto 20 rfl rfl ?_
      rw [show k + 1 + (mdW m s f (owC ow ((cdA (btA m s ow)) / 10) ((cdA (btA m s ow)) % 10))).1 = k + ((mdW m s f (owC ow ((cdA (btA m s ow)) / 10) ((cdA (btA m s ow)) % 10))).1 + 1) by omega] at key
      exact key
    · skip
      rw [mdW_n (hc.mp c_1)]
      refine g_iload_n (i := 2) rfl rfl ?_
      refine g_ireturn (ty := .int) rfl rfl rfl ?_
      exact ⟨rfl, X2.2.1⟩
theorem s_mend12 {d : Nat} {h : sHp} {c : CF} {m : MF} {s : Sg} {n : Nat} (hd : 8 ≤ d) (M : MC h m) (gM : gdM m.1 s.1 s.2.1) (g : gdF c s.1 s.2.1) (r : RB c m) (sI : sgI c s) (sJ : sgJ m.1 s) (ho : ∀ q, q < s.1 * s.2.1 → ∃ k, k < 7 ∧ m.2.2.1 q = cdS k) (h1 : 1 ≤ n) (h20 : n ≤ 20) : sDo d 242 [.ref 60, .int (Int32.ofNat n)] h (fun rv h' => rv = some (.int (Int32.ofNat (mdW m s n m.2.2.1).1)) ∧ h'[63]? = some (.inl (0, 64, .inl (mdW m s n m.2.2.1).2))) := by
  have en := ofN_toInt (n := n) (by omega)
  refine sDo_of1 (nL := 4) (L := [some (.ref 60), some (.int (Int32.ofNat n)), none, none]) (by omega) rfl rfl ?_
  refine g_iload_n (i := 1) rfl rfl ?_
  refine g_iconst (n := 1) rfl ?_
  have k_2 : (Int32.ofInt 1).toInt = 1 := rfl
  refine g_icmp_lt 11 rfl rfl (fun c_1 => ?_) (fun c_1 => ?_)
  · skip
    rw [i_lt, en, k_2] at c_1
    exfalso; omega
  · skip
    rw [i_lt, en, k_2] at c_1
    refine g_iload_n (i := 1) rfl rfl ?_
    refine g_bipush (n := 20) rfl ?_
    have k_4 : ((Int8.ofInt 20).toInt32).toInt = 20 := rfl
    refine g_icmp_le 18 rfl rfl (fun c_3 => ?_) (fun c_3 => ?_)
    · skip
      rw [i_le, en, k_4] at c_3
      refine g_iconst (n := 0) rfl ?_
      refine g_istore_n (i := 2) (L1 := [some (.ref 60), some (.int (Int32.ofNat n)), some (.int (Int32.ofInt 0)), none]) rfl (Nat.le_of_ble_eq_true rfl) rfl ?_
      have key := s_mend12_go (d := d - 1) (hb := h) (by omega) M gM g r sI sJ h20 n 0 m.1 m.2.2.1 h none (Nat.zero_add _) ⟨M.1, M.2.2.1, rfl, fun _ _ _ => rfl⟩ jE_rfl ho
      rw [Nat.zero_add] at key
      exact key
    · skip
      rw [i_le, en, k_4] at c_3
      exfalso; omega
theorem s_mend12n {d : Nat} {h : sHp} {R : Nat → Int32} {m : MF} {x : Int32} (hd : 3 ≤ d) (M : MC h m) (hR : h[61]? = some (rFc R)) (hx : ¬ (1 ≤ x.toInt ∧ x.toInt ≤ 20)) : sDo d 242 [.ref 60, .int x] h (fun r h' => r = some (.int (-6)) ∧ h' = h.set 61 (rFc (bump R 6))) := by
  refine sDo_of1 (nL := 4) (L := [some (.ref 60), some (.int x), none, none]) (by omega) rfl rfl ?_
  refine g_iload_n (i := 1) rfl rfl ?_
  refine g_iconst (n := 1) rfl ?_
  have k_2 : (Int32.ofInt 1).toInt = 1 := rfl
  refine g_icmp_lt 11 rfl rfl (fun c_1 => ?_) (fun c_1 => ?_)
  · skip
    rw [i_lt, k_2] at c_1
    refine g_aload_n (i := 0) rfl rfl ?_
    refine g_bipush (n := (-6)) rfl ?_
    refine g_virt1 (Qc := fun r h' => r = some (.int ((Int8.ofInt (-6)).toInt32)) ∧ h' = h.set 61 (rFc (bump R 6))) rfl (by decide) rfl M.1 rfl (Nat.le_of_ble_eq_true rfl) (s_no2 (X := 6) (by omega) M.1 hR rfl (by decide)) (fun r h9 hq9 => ?_)
    obtain ⟨rfl, rfl⟩ := hq9
    refine g_ireturn (ty := .int) rfl rfl rfl ?_
    exact ⟨rfl, rfl⟩
  · skip
    rw [i_lt, k_2] at c_1
    refine g_iload_n (i := 1) rfl rfl ?_
    refine g_bipush (n := 20) rfl ?_
    have k_4 : ((Int8.ofInt 20).toInt32).toInt = 20 := rfl
    refine g_icmp_le 18 rfl rfl (fun c_3 => ?_) (fun c_3 => ?_)
    · skip
      rw [i_le, k_4] at c_3
      exfalso; omega
    · skip
      rw [i_le, k_4] at c_3
      refine g_aload_n (i := 0) rfl rfl ?_
      refine g_bipush (n := (-6)) rfl ?_
      refine g_virt1 (Qc := fun r h' => r = some (.int ((Int8.ofInt (-6)).toInt32)) ∧ h' = h.set 61 (rFc (bump R 6))) rfl (by decide) rfl M.1 rfl (Nat.le_of_ble_eq_true rfl) (s_no2 (X := 6) (by omega) M.1 hR rfl (by decide)) (fun r h9 hq9 => ?_)
      obtain ⟨rfl, rfl⟩ := hq9
      refine g_ireturn (ty := .int) rfl rfl rfl ?_
      exact ⟨rfl, rfl⟩
theorem pr9_mend (x : Int32) : pairR bR9 147 242 [.int x] := pr_wR (c1 := cn_X11_mend_0) (c2 := cn_X12_mend_0) ch_X11_mend_0 ch_X12_mend_0 (by decide +kernel) (by decide +kernel) (by decide +kernel) (by decide +kernel) rfl rfl (fun h hH => ⟨bt0 hH, vI0 x, trivial⟩) (fun h hH => ⟨bt60 hH, vI0 x, trivial⟩) (by decide +kernel) (by decide +kernel) (fun h hH hR => by
  obtain ⟨⟨hd, so, sz, co, cl, f, gg, q4, bs⟩, c, ck, m, gk, ik, tf, kc, km, ej, rl, rk⟩ := hR
  have F := kc.1
  have h0 := kc.2.2.1
  have M := km.1
  obtain ⟨R, hR43⟩ := RA_of hH (p := 43) (Or.inl rfl)
  obtain ⟨s, sI, sJ, g, gM⟩ := RN_sg rl.1.1
  have n5 := sI.2.2.2.2.2.2.2
  have hn := gdF_n g
  have PO := rl.2 s sI
  have gd := gM
  obtain ⟨-, -, w2, w8, -, h8⟩ := gd
  obtain ⟨B, S1, S2, fc, ff, s38, s39, s40⟩ := SO_of2 hH
  obtain ⟨T, s41⟩ := trial_of hH
  by_cases hx : 1 ≤ x.toInt ∧ x.toInt ≤ 20
  · obtain ⟨n, hnx⟩ : ∃ n : Nat, x.toInt = n := ⟨x.toInt.toNat, by omega⟩
    have ex : x = Int32.ofNat n := Int32.toInt_inj.mp (by rw [hnx, ofN_toInt (by omega)])
    subst ex
    refine ⟨_, mdS m s n m.2.2.1 c.2.2.2.2.2.2, (mdW m s n m.2.2.1).2, fun c' m' s' r' F' M' sI' => ?_, s_mend11 (d := 10) (m := m) (by omega) h0 F g rl.1 sI PO s38 s41 (by omega) (by omega), fun h1 hH1 E => s_mend12 (d := 10) (by omega) (MC_vO M E) gM g rl.1 sI sJ PO.2 (by omega) (by omega)⟩
    rw [sg_one F F' sI sI']
    exact md_PT hn.1 n5 n _ _ PO
  · refine ⟨_, c.2.2.2.2.2.2, m.2.2.1, fun c' m' s' r' F' M' sI' => ?_, sDo_mono (s_mend11n (d := 10) (by omega) h0 hR43 hx) (fun r h' q => ⟨q.1, by rw [q.2, s_set_ne (by decide)]; exact F.2.2.2.2.2.2, by rw [q.2]; exact vO_43 vO_rfl (by decide)⟩), fun h1 hH1 E => ?_⟩
    · have P' := r'.2 s' sI'
      rw [FC_one F F', MC_one M M'] at P'
      exact P'
    · obtain ⟨Rm, hRm⟩ := RA_of hH1 (p := 61) (Or.inr rfl)
      exact sDo_mono (s_mend12n (d := 10) (by omega) (MC_vO M E) hRm hx) (fun r h' q => ⟨q.1, by rw [q.2, s_set_ne (by decide)]; exact (MC_vO M E).2.2.1⟩))
end
