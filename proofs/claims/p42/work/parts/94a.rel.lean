/-! ===== owners alike ===== -/
def cdS (k : Nat) : Int32 := if k = 5 then 9 else if k = 6 then -1 else Int32.ofNat k
theorem cdS_inj {a b : Nat} (ha : a < 7) (hb : b < 7) (h : cdS a = cdS b) : a = b := by
  have key : ∀ a, a < 7 → ∀ b, b < 7 → cdS a = cdS b → a = b := by decide +kernel
  exact key a ha b hb h
/-- seven sets part the squares as the owners say -/
def PT (S : Nat → Int64) (ow : Nat → Int32) (n : Nat) : Prop := (∀ k, k < 7 → S k = stO (fun q => decide (ow q = cdS k)) n) ∧ ∀ q, q < n → ∃ k, k < 7 ∧ ow q = cdS k
def RO (c : CF) (m : MF) : Prop := RB c m ∧ ∀ s : Sg, sgI c s → PT c.2.2.2.2.2.2 m.2.2.1 (s.1 * s.2.1)
theorem RO_mk {c : CF} {m : MF} {s : Sg} (a : RB c m) (q : sgI c s) (b : PT c.2.2.2.2.2.2 m.2.2.1 (s.1 * s.2.1)) : RO c m := ⟨a, fun s' q' => by rw [← sgI_inj q q']; exact b⟩
theorem PT_ext {S S' : Nat → Int64} {ow ow' : Nat → Int32} {n : Nat} (hn : n ≤ 64) (hS : ∀ k, k < 7 → S' k = S k) (ho : ∀ q, q < n → ow' q = ow q) (p : PT S ow n) : PT S' ow' n := ⟨fun k hk => (hS k hk).trans ((p.1 k hk).trans (stO_ext hn (fun q hq => by rw [ho q hq]))), fun q hq => by rw [ho q hq]; exact p.2 q hq⟩
theorem PT_bt {S : Nat → Int64} {ow : Nat → Int32} {n k q : Nat} (hn : n ≤ 64) (p : PT S ow n) (hk : k < 7) (hq : q < n) : bt (S k) q = decide (ow q = cdS k) := by
  rw [p.1 k hk, bt_stO _ _ hn, decide_eq_true hq, Bool.true_and]
theorem PT_out {S : Nat → Int64} {ow : Nat → Int32} {n k q : Nat} (hn : n ≤ 64) (p : PT S ow n) (hk : k < 7) (hq : ¬ q < n) : bt (S k) q = false := by
  rw [p.1 k hk, bt_stO _ _ hn, decide_eq_false hq, Bool.false_and]
theorem PT_size {S : Nat → Int64} {ow : Nat → Int32} {z : Int64} {n : Nat} (hn : n ≤ 64) (hz : z = stO (fun _ => true) n) : PT (vp_updL (zrF S 7) 6 z) (fillF (Int32.ofInt (-1)) ow 64) n := by
  have e0 : ∀ q, q < n → fillF (Int32.ofInt (-1)) ow 64 q = cdS 6 := fun q hq => if_pos (by omega)
  refine ⟨fun k hk => ?_, fun q hq => ⟨6, by decide, e0 q hq⟩⟩
  by_cases w : k = 6
  · subst w
    rw [show vp_updL (zrF S 7) 6 z 6 = z from if_pos rfl, hz]
    exact stO_ext hn (fun q hq => by rw [e0 q hq, decide_eq_true rfl])
  · rw [show vp_updL (zrF S 7) 6 z k = zrF S 7 k from if_neg w, show zrF S 7 k = Int64.ofNat 0 from if_pos hk]
    exact (stO_no hn (fun q hq => by rw [e0 q hq]; exact decide_eq_false (fun z => w (cdS_inj (by decide) hk z).symm))).symm
/-- a set goes over to one slot -/
theorem PT_give {S : Nat → Int64} {ow ow' : Nat → Int32} {n v : Nat} {set : Int64} {P : Nat → Bool} (hn : n ≤ 64) (hv : v < 7) (hs : set = stO P n) (e : ∀ q, q < n → ow' q = if P q = true then cdS v else ow q) (p : PT S ow n) : PT (giveS S 7 set v) ow' n := by
  refine ⟨fun u hu => ?_, fun q hq => ?_⟩
  · have gu : ∀ u, u < 7 → gvF S set 7 u = S u &&& (set ^^^ lM1) := fun u hu => if_pos hu
    refine bt_ext (fun i hi => ?_)
    rw [bt_stO _ _ hn]
    by_cases z : i < n
    · rw [decide_eq_true z, Bool.true_and, e i z]
      have k1 := PT_bt hn p hu z
      have k2 : bt set i = P i := by rw [hs, bt_stO _ _ hn, decide_eq_true z, Bool.true_and]
      by_cases w : u = v
      · subst w
        rw [show giveS S 7 set u u = gvF S set 7 u ||| set from if_pos rfl, gu u hu, bt_or, bt_and, bt_not, decide_eq_true hi, Bool.true_and, k1, k2]
        by_cases y : P i = true
        · rw [y, if_pos rfl, decide_eq_true rfl, Bool.or_true]
        · rw [nTF y, if_neg (by decide), Bool.or_false, Bool.not_false, Bool.and_true]
      · rw [show giveS S 7 set v u = gvF S set 7 u from if_neg w, gu u hu, bt_and, bt_not, decide_eq_true hi, Bool.true_and, k1, k2]
        by_cases y : P i = true
        · rw [y, if_pos rfl, Bool.not_true, Bool.and_false]
          exact (decide_eq_false (fun z => w (cdS_inj hv hu z).symm)).symm
        · rw [nTF y, if_neg (by decide), Bool.not_false, Bool.and_true]
    · rw [decide_eq_false z, Bool.false_and]
      have k1 := PT_out hn p hu z
      have k2 : bt set i = false := by rw [hs, bt_stO _ _ hn, decide_eq_false z, Bool.false_and]
      by_cases w : u = v
      · subst w
        rw [show giveS S 7 set u u = gvF S set 7 u ||| set from if_pos rfl, gu u hu, bt_or, bt_and, k1, k2]
        rfl
      · rw [show giveS S 7 set v u = gvF S set 7 u from if_neg w, gu u hu, bt_and, k1]
        rfl
  · rw [e q hq]
    by_cases y : P q = true
    · rw [if_pos y]; exact ⟨v, hv, rfl⟩
    · rw [if_neg y]; exact p.2 q hq
theorem svF_ow (m : MF) (g : Nat → Int32) {q : Nat} (hq : q < 64) : svF m g (64 + q) = m.2.2.1 q := by
  unfold svF
  rw [gS7_ne (by omega)]
  unfold gS ks
  rw [if_neg (by omega), if_neg (by omega), if_neg (by omega), if_pos (by omega)]
  exact congrArg _ (by omega)
theorem RO_ok : relOk RO := by
  refine ⟨fun c m m' r q => ⟨RB_ok.1 c m m' r.1 q, fun s hs => by rw [q.2]; exact r.2 s hs⟩, fun c m s a r q p k => ?_, fun a b m r => ?_, fun c m m' g r => ?_, fun c m r => r.1.1, fun c m s k v r q hk hv => ?_⟩
  · have z := sg_do q p k
    obtain ⟨s', sI, -, gF, -⟩ := RN_sg r.1.1
    have e : s' = s := sgI_inj sI q
    subst e
    refine RO_mk (RB_ok.2.1 c m s' a r.1 q p k) z.1 ?_
    have n0 := gdF_n gF
    have P := r.2 s' q
    obtain ⟨i, x, y, w⟩ := a
    match i, k with
    | 0, k =>
      have k : 2 ≤ x ∧ x ≤ 8 ∧ 2 ≤ y ∧ y ≤ 8 := k
      have g2 := (gdF_size (c := c) k.1 k.2.1 k.2.2.1 k.2.2.2)
      exact PT_size (gdF_n g2).1 g2.2.2.2.2.2.2.1
    | 1, _ => exact P
    | 2, _ => exact P
    | 3, _ => exact P
    | i + 4, _ => exact P
  · obtain ⟨s, sI, -, gF, -⟩ := RN_sg r.1.1
    have sI2 : sgI (cfBecome a b) s := ⟨(bc_I a.1 b.1 0 (by decide)).trans sI.1, (bc_I a.1 b.1 1 (by decide)).trans sI.2.1, (bc_I a.1 b.1 11 (by decide)).trans sI.2.2.1, sI.2.2.2⟩
    exact RO_mk (RB_ok.2.2.1 a b m r.1) sI2 (PT_ext (gdF_n gF).1 (fun k hk => if_pos hk) (fun _ _ => rfl) (r.2 s sI))
  · obtain ⟨s, sI, -, gF, -⟩ := RN_sg r.1.1
    refine RO_mk (RB_ok.2.2.2.1 c m m' g r.1) sI (PT_ext (gdF_n gF).1 (fun _ _ => rfl) (fun q hq => ?_) (r.2 s sI))
    have n0 := (gdF_n gF).1
    show kb m'.2.2.1 (svF m g) 64 64 q = _
    unfold kb
    rw [if_pos (by omega), svF_ow m g (by omega)]
  · have sI2 : sgI (upd c.1 (7 + k) v, c.2) s := ⟨(u_ne (show (0 : Nat) ≠ 7 + k by omega)).trans q.1, (u_ne (show (1 : Nat) ≠ 7 + k by omega)).trans q.2.1, (u_ne (show (11 : Nat) ≠ 7 + k by omega)).trans q.2.2.1, q.2.2.2⟩
    exact RO_mk (RB_ok.2.2.2.2.2 c m s k v r.1 q hk hv) sI2 (r.2 s q)
theorem RO_ow {c : CF} {m : MF} {o1 : Nat → Int64} {o2 : Nat → Int32} {s : Sg} (r : RO c m) (q : sgI c s) (p : PT o1 o2 (s.1 * s.2.1)) : RO (c.1, c.2.1, c.2.2.1, c.2.2.2.1, c.2.2.2.2.1, c.2.2.2.2.2.1, o1) (m.1, m.2.1, o2, m.2.2.2) := RO_mk (RB_no c m o1 o2 r.1) (show sgI (c.1, c.2.1, c.2.2.1, c.2.2.2.1, c.2.2.2.2.1, c.2.2.2.2.2.1, o1) s from q) p
