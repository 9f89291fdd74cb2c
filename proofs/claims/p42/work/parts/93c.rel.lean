/-! ===== soils, shares, worths, FOND alike ===== -/
def RSs (s : Sg) (c : CF) (m : MF) : Prop := (∀ v, v < 6 → c.2.2.1 v = stO (fun q => decide (m.2.1 q = Int32.ofNat v)) (s.1 * s.2.1)) ∧ (∀ q, q < s.1 * s.2.1 → ∃ v, v < 6 ∧ m.2.1 q = Int32.ofNat v) ∧ (∀ k, k < s.2.2 → c.2.2.2.1 k = m.2.2.2.1 k ∧ c.2.2.2.2.2.1 k = m.2.2.2.2.1 k) ∧ (∀ k, k < s.2.2 → ∀ v, v < 6 → c.2.2.2.2.1 k v = m.2.2.2.2.2 (6 * k + v)) ∧ ∀ k, k < s.2.2 → (∃ n, 1 ≤ n ∧ n ≤ 9 ∧ m.2.2.2.1 k = Int32.ofNat n) ∧ (m.2.2.2.2.1 k = 0 ∨ m.2.2.2.2.1 k = 1) ∧ ∀ v, v < 6 → ∃ n, n < 100 ∧ m.2.2.2.2.2 (6 * k + v) = Int32.ofNat n
/-- the places may stand -/
def RPs (s : Sg) (J : Nat → Int32) : Prop := ∀ k : Nat, k ≤ 3 → okPl (s.1 * s.2.1) (k : Int) (J (2 + k)).toInt
def RB (c : CF) (m : MF) : Prop := RN c m ∧ ∀ s : Sg, sgI c s → RSs s c m ∧ RPs s m.1
theorem ofN_inj {a b : Nat} (ha : a < 1000) (hb : b < 1000) (h : Int32.ofNat a = Int32.ofNat b) : a = b := by
  have h2 := congrArg Int32.toInt h
  rw [ofN_toInt (by omega), ofN_toInt (by omega)] at h2
  omega
theorem sgI_inj {c : CF} {s s' : Sg} (a : sgI c s) (b : sgI c s') : s = s' := by
  obtain ⟨x, y, z⟩ := s
  obtain ⟨x', y', z'⟩ := s'
  obtain ⟨a1, a2, a3, a4, a5, a6, a7, a8⟩ := a
  obtain ⟨b1, b2, b3, b4, b5, b6, b7, b8⟩ := b
  have a5 : x ≤ 8 := a5
  have a7 : y ≤ 8 := a7
  have a8 : z ≤ 5 := a8
  have b5 : x' ≤ 8 := b5
  have b7 : y' ≤ 8 := b7
  have b8 : z' ≤ 5 := b8
  have e1 : x = x' := ofN_inj (show x < 1000 by omega) (show x' < 1000 by omega) (a1.symm.trans b1)
  have e2 : y = y' := ofN_inj (show y < 1000 by omega) (show y' < 1000 by omega) (a2.symm.trans b2)
  have e3 : z = z' := ofN_inj (show z < 1000 by omega) (show z' < 1000 by omega) (a3.symm.trans b3)
  rw [e1, e2, e3]
theorem RB_s {c : CF} {m : MF} {s : Sg} (r : RB c m) (q : sgI c s) : RSs s c m := (r.2 s q).1
theorem RB_mk {c : CF} {m : MF} {s : Sg} (a : RN c m) (q : sgI c s) (b : RSs s c m) (b2 : RPs s m.1) : RB c m := ⟨a, fun s' q' => by rw [← sgI_inj q q']; exact ⟨b, b2⟩⟩
theorem RPs_J {s : Sg} {J J' : Nat → Int32} (r : RPs s J) (e : ∀ j, j < 7 → J' j = J j) : RPs s J' := fun k hk => by rw [e (2 + k) (by omega)]; exact r k hk
theorem okPl_n {n n' : Nat} {k : Nat} {v : Int} (h : okPl n k v) (hk : k = 0 ∨ k = 3) : okPl n' k v := by
  unfold okPl at h ⊢
  omega
theorem RSs_c {s : Sg} {c c' : CF} {m m' : MF} (r : RSs s c m) (e : c'.2.2 = c.2.2) (e' : m'.2 = m.2) : RSs s c' m' := by
  obtain ⟨I, G, R⟩ := c
  obtain ⟨I', G', R'⟩ := c'
  obtain ⟨J, T⟩ := m
  obtain ⟨J', T'⟩ := m'
  have e : R' = R := e
  have e' : T' = T := e'
  subst e e'
  exact r
theorem RN_sgI {c : CF} {m : MF} (r : RN c m) : ∃ s : Sg, sgI c s ∧ sgJ m.1 s := by
  obtain ⟨s, a, b, -⟩ := RN_sg r
  exact ⟨s, a, b⟩
theorem stO_ext {P Q : Nat → Bool} {n : Nat} (hn : n ≤ 64) (h : ∀ q, q < n → P q = Q q) : stO P n = stO Q n := bt_ext (fun i hi => by
  rw [bt_stO _ _ hn, bt_stO _ _ hn]
  by_cases z : i < n
  · rw [h i z]
  · rw [decide_eq_false z, Bool.false_and, Bool.false_and])
theorem stO_no {P : Nat → Bool} {n : Nat} (hn : n ≤ 64) (h : ∀ q, q < n → P q = false) : stO P n = Int64.ofNat 0 := bt_ext (fun i hi => by
  rw [bt_stO _ _ hn, bt_0]
  by_cases z : i < n
  · rw [h i z, Bool.and_false]
  · rw [decide_eq_false z, Bool.false_and])
theorem svF_so (m : MF) (g : Nat → Int32) {q : Nat} (hq : q < 64) : svF m g q = m.2.1 q := by
  unfold svF
  rw [gS7_ne (by omega), gS_A hq]
theorem svF_sh (m : MF) (g : Nat → Int32) {q : Nat} (hq : q < 5) : svF m g (128 + q) = m.2.2.2.1 q := by
  unfold svF
  rw [gS7_ne (by omega), gS_C hq]
theorem svF_fo (m : MF) (g : Nat → Int32) {q : Nat} (hq : q < 5) : svF m g (133 + q) = m.2.2.2.2.1 q := by
  unfold svF
  rw [gS7_ne (by omega)]
  unfold gS ks
  rw [if_neg (by omega), if_pos (by omega)]
  exact congrArg _ (by omega)
theorem svF_va (m : MF) (g : Nat → Int32) {q : Nat} (hq : q < 30) : svF m g (138 + q) = m.2.2.2.2.2 q := by
  unfold svF
  rw [gS7_ne (by omega)]
  unfold gS ks
  rw [if_pos (by omega)]
  exact congrArg _ (by omega)
theorem RSs_back {s : Sg} {c : CF} {m : MF} (h1 : s.1 * s.2.1 ≤ 64) (hN : s.2.2 ≤ 5) (r : RSs s c m) (m' : MF) (g : Nat → Int32) : RSs s c (mfBack m' (svF m g)) := by
  obtain ⟨r1, r2, r3, r4, r5⟩ := r
  have eH : ∀ k, k < 5 → (mfBack m' (svF m g)).2.2.2.1 k = m.2.2.2.1 k := fun k hk => by
    show kb m'.2.2.2.1 (svF m g) 128 5 k = _
    unfold kb
    rw [if_pos (by omega), svF_sh m g (by omega)]
  have eF : ∀ k, k < 5 → (mfBack m' (svF m g)).2.2.2.2.1 k = m.2.2.2.2.1 k := fun k hk => by
    show kb m'.2.2.2.2.1 (svF m g) 133 5 k = _
    unfold kb
    rw [if_pos (by omega), svF_fo m g (by omega)]
  have eV : ∀ j, j < 30 → (mfBack m' (svF m g)).2.2.2.2.2 j = m.2.2.2.2.2 j := fun j hj => by
    show kb m'.2.2.2.2.2 (svF m g) 138 30 j = _
    unfold kb
    rw [if_pos (by omega), svF_va m g (by omega)]
  have eS : ∀ q, q < 64 → (mfBack m' (svF m g)).2.1 q = m.2.1 q := fun q hq => by
    show kb m'.2.1 (svF m g) 0 64 q = _
    unfold kb
    rw [if_pos hq, Nat.zero_add, svF_so m g hq]
  refine ⟨fun v hv => (r1 v hv).trans (stO_ext h1 (fun q hq => by rw [eS q (by omega)])), fun q hq => by rw [eS q (by omega)]; exact r2 q hq, fun k hk => ?_, fun k hk v hv => ?_, fun k hk => ⟨?_, ?_, fun v hv => ?_⟩⟩
  · rw [eH k (by omega), eF k (by omega)]; exact r3 k hk
  · rw [eV (6 * k + v) (by omega)]; exact r4 k hk v hv
  · rw [eH k (by omega)]; exact (r5 k hk).1
  · rw [eF k (by omega)]; exact (r5 k hk).2.1
  · rw [eV (6 * k + v) (by omega)]; exact (r5 k hk).2.2 v hv
theorem RSs_bec {s : Sg} {a b : CF} {m : MF} (hN : s.2.2 ≤ 5) (r : RSs s a m) : RSs s (cfBecome a b) m := by
  obtain ⟨r1, r2, r3, r4, r5⟩ := r
  refine ⟨fun v hv => ?_, r2, fun k hk => ?_, fun k hk v hv => ?_, r5⟩
  · exact (show cpL a.2.2.1 b.2.2.1 6 v = a.2.2.1 v from if_pos hv).trans (r1 v hv)
  · exact ⟨(show cpI a.2.2.2.1 b.2.2.2.1 5 k = a.2.2.2.1 k from if_pos (by omega)).trans (r3 k hk).1, (show cpI a.2.2.2.2.2.1 b.2.2.2.2.2.1 5 k = a.2.2.2.2.2.1 k from if_pos (by omega)).trans (r3 k hk).2⟩
  · refine (show bcW a.2.2.2.2.1 b.2.2.2.2.1 5 k v = a.2.2.2.2.1 k v from ?_).trans (r4 k hk v hv)
    unfold bcW
    rw [if_pos (show k < 5 by omega)]
    exact if_pos hv
/-- a set goes over to one soil -/
theorem RSs_lay {s : Sg} {c : CF} {m : MF} {v : Nat} {set : Int64} {P : Nat → Bool} {so' : Nat → Int32} (h1 : s.1 * s.2.1 ≤ 64) (hv : v < 6) (hs : set = stO P (s.1 * s.2.1)) (e : ∀ q, q < s.1 * s.2.1 → so' q = if P q = true then Int32.ofNat v else m.2.1 q) (r : RSs s c m) : RSs s (c.1, c.2.1, giveS c.2.2.1 6 set v, c.2.2.2) (m.1, so', m.2.2) := by
  obtain ⟨r1, r2, r3, r4, r5⟩ := r
  refine ⟨fun u hu => ?_, fun q hq => ?_, r3, r4, r5⟩
  · show giveS c.2.2.1 6 set v u = stO (fun q => decide (so' q = Int32.ofNat u)) (s.1 * s.2.1)
    have gu : ∀ u, u < 6 → gvF c.2.2.1 set 6 u = c.2.2.1 u &&& (set ^^^ lM1) := fun u hu => if_pos hu
    refine bt_ext (fun i hi => ?_)
    rw [bt_stO _ _ h1]
    by_cases z : i < s.1 * s.2.1
    · rw [decide_eq_true z, Bool.true_and, e i z]
      have k1 : bt (c.2.2.1 u) i = decide (m.2.1 i = Int32.ofNat u) := by rw [r1 u hu, bt_stO _ _ h1, decide_eq_true z, Bool.true_and]
      have k2 : bt set i = P i := by rw [hs, bt_stO _ _ h1, decide_eq_true z, Bool.true_and]
      by_cases w : u = v
      · subst w
        rw [show giveS c.2.2.1 6 set u u = gvF c.2.2.1 set 6 u ||| set from if_pos rfl, gu u hu, bt_or, bt_and, bt_not, k1, k2, decide_eq_true hi, Bool.true_and]
        cases hp : P i
        · rw [if_neg (by decide), Bool.not_false, Bool.and_true, Bool.or_false]
        · rw [if_pos rfl, Bool.or_true, decide_eq_true rfl]
      · rw [show giveS c.2.2.1 6 set v u = gvF c.2.2.1 set 6 u from if_neg w, gu u hu, bt_and, bt_not, k1, k2, decide_eq_true hi, Bool.true_and]
        cases hp : P i
        · rw [if_neg (by decide), Bool.not_false, Bool.and_true]
        · rw [if_pos rfl, Bool.not_true, Bool.and_false]
          exact (decide_eq_false (fun y => w (ofN_inj (by omega) (by omega) y).symm)).symm
    · rw [decide_eq_false z, Bool.false_and]
      have k1 : bt (c.2.2.1 u) i = false := by rw [r1 u hu, bt_stO _ _ h1, decide_eq_false z, Bool.false_and]
      have k2 : bt set i = false := by rw [hs, bt_stO _ _ h1, decide_eq_false z, Bool.false_and]
      by_cases w : u = v
      · subst w
        rw [show giveS c.2.2.1 6 set u u = gvF c.2.2.1 set 6 u ||| set from if_pos rfl, gu u hu, bt_or, bt_and, k1, k2]
        rfl
      · rw [show giveS c.2.2.1 6 set v u = gvF c.2.2.1 set 6 u from if_neg w, gu u hu, bt_and, k1]
        rfl
  · show ∃ v, v < 6 ∧ so' q = Int32.ofNat v
    rw [e q hq]
    cases hp : P q
    · rw [if_neg (by decide)]; exact r2 q hq
    · rw [if_pos rfl]; exact ⟨v, hv, rfl⟩
theorem bt_low2 {n i : Nat} (hn : n < 1000) (hi : i < 64) : bt (lowS (Int32.ofNat n)) i = decide (i < n) := by
  rw [bt_low hi, ofN_toInt (by omega)]
  exact decide_eq_decide.mpr (by omega)
theorem RSs_do {s : Sg} {c : CF} {m : MF} {a : Act} (g : gdF c s.1 s.2.1) (q : sgI c s) (p : sgJ m.1 s) (k : actOk s a) (r : RSs s c m) : RSs (sgDo s a) (cfDo c a) (mfDo m a) := by
  have hn := gdF_n g
  obtain ⟨i, x, y, z⟩ := a
  match i, k with
  | 0, k =>
    obtain ⟨r1, r2, r3, r4, r5⟩ := r
    have k : 2 ≤ x ∧ x ≤ 8 ∧ 2 ≤ y ∧ y ≤ 8 := k
    have g2 := (gdF_size (c := c) k.1 k.2.1 k.2.2.1 k.2.2.2)
    have n2 := gdF_n g2
    have lw : lowS (Int32.ofNat x * Int32.ofNat y) = stO (fun _ => true) (x * y) := g2.2.2.2.2.2.2.1
    refine ⟨fun v hv => ?_, fun q hq => ⟨0, by decide, (show fillF (Int32.ofInt 0) m.2.1 64 q = _ from if_pos (by have hq : q < x * y := hq; omega))⟩, r3, r4, r5⟩
    show vp_updL (zrF c.2.2.1 6) 0 (lowS (Int32.ofNat x * Int32.ofNat y)) v = stO (fun q => decide (fillF (Int32.ofInt 0) m.2.1 64 q = Int32.ofNat v)) (x * y)
    have e0 : ∀ q, q < x * y → fillF (Int32.ofInt 0) m.2.1 64 q = Int32.ofNat 0 := fun q hq => if_pos (by omega)
    by_cases w : v = 0
    · subst w
      rw [show vp_updL (zrF c.2.2.1 6) 0 (lowS (Int32.ofNat x * Int32.ofNat y)) 0 = _ from if_pos rfl, lw]
      exact stO_ext n2.1 (fun q hq => by rw [e0 q hq, decide_eq_true rfl])
    · rw [show vp_updL (zrF c.2.2.1 6) 0 (lowS (Int32.ofNat x * Int32.ofNat y)) v = zrF c.2.2.1 6 v from if_neg w, show zrF c.2.2.1 6 v = Int64.ofNat 0 from if_pos hv]
      exact (stO_no n2.1 (fun q hq => by rw [e0 q hq]; exact decide_eq_false (fun z => w (ofN_inj (by omega) (by omega) z).symm))).symm
  | 1, k =>
    have k : x < 6 ∧ y ≤ z ∧ z < s.1 * s.2.1 := k
    have g2 : c.2.1 2 = stO (fun _ => true) (s.1 * s.2.1) := g.2.2.2.2.2.2.1
    show RSs s (c.1, c.2.1, giveS c.2.2.1 6 ((lowS (Int32.ofNat (z + 1)) &&& c.2.1 2) &&& ((lowS (Int32.ofNat y) &&& c.2.1 2) ^^^ Int64.ofNat 18446744073709551615)) x, c.2.2.2) (m.1, (fun i => if y ≤ i ∧ i ≤ z then Int32.ofNat x else m.2.1 i), m.2.2)
    refine RSs_lay (s := s) (P := fun q => decide (y ≤ q ∧ q ≤ z)) hn.1 k.1 (bt_ext (fun i hi => ?_)) (fun q hq => ?_) r
    · show bt ((lowS (Int32.ofNat (z + 1)) &&& c.2.1 2) &&& ((lowS (Int32.ofNat y) &&& c.2.1 2) ^^^ lM1)) i = _
      rw [bt_and, bt_and, bt_not, bt_and, g2, bt_stO _ _ hn.1, bt_stO _ _ hn.1, bt_low2 (by omega) hi, bt_low2 (by omega) hi, decide_eq_true hi, Bool.true_and, Bool.and_true]
      by_cases w : i < s.1 * s.2.1
      · rw [decide_eq_true w, Bool.true_and, Bool.and_true, Bool.and_true]
        by_cases w1 : i < z + 1
        · by_cases w2 : i < y
          · rw [decide_eq_true w1, decide_eq_true w2, decide_eq_false (show ¬ (y ≤ i ∧ i ≤ z) by omega)]; rfl
          · rw [decide_eq_true w1, decide_eq_false w2, decide_eq_true (show y ≤ i ∧ i ≤ z by omega)]; rfl
        · rw [decide_eq_false w1, decide_eq_false (show ¬ (y ≤ i ∧ i ≤ z) by omega)]; rfl
      · rw [decide_eq_false w, Bool.and_false, Bool.false_and, Bool.false_and]
    · show (if y ≤ q ∧ q ≤ z then Int32.ofNat x else m.2.1 q) = _
      by_cases w : y ≤ q ∧ q ≤ z
      · rw [if_pos w, if_pos (decide_eq_true w)]
      · rw [if_neg w, if_neg (by rw [decide_eq_false w]; decide)]
  | 2, k => exact r
  | 3, k =>
    have k3 : s.2.2 < 5 := k.2.2
    have eN := ofN_toInt (n := s.2.2) (by omega)
    have e1 : (c.1 11).toNatClampNeg = s.2.2 := by rw [q.2.2.1]; exact i_nat eN
    have e2 : (m.1 6).toNatClampNeg = s.2.2 := by rw [p.2.2.1]; exact i_nat eN
    show RSs (s.1, s.2.1, s.2.2 + 1) (cfHeir (c.1 11).toNatClampNeg (Int32.ofNat x) c) (mfHeir (m.1 6).toNatClampNeg (Int32.ofNat x) m)
    rw [e1, e2]
    obtain ⟨r1, r2, r3, r4, r5⟩ := r
    have kx : 1 ≤ x ∧ x ≤ 9 := ⟨k.1, k.2.1⟩
    refine ⟨r1, r2, fun k hk => ?_, fun k hk v hv => ?_, fun k hk => ⟨?_, ?_, fun v hv => ?_⟩⟩
    · have hk : k < s.2.2 + 1 := hk
      show upd c.2.2.2.1 s.2.2 (Int32.ofNat x) k = upd m.2.2.2.1 s.2.2 (Int32.ofNat x) k ∧ upd c.2.2.2.2.2.1 s.2.2 0 k = upd m.2.2.2.2.1 s.2.2 (Int32.ofInt 0) k
      by_cases w : k = s.2.2
      · rw [w, u_at, u_at, u_at, u_at]; exact ⟨rfl, rfl⟩
      · rw [u_ne w, u_ne w, u_ne w, u_ne w]; exact r3 k (by omega)
    · have hk : k < s.2.2 + 1 := hk
      show (if k = s.2.2 then tenF (c.2.2.2.2.1 s.2.2) 6 else c.2.2.2.2.1 k) v = tenV m.2.2.2.2.2 s.2.2 6 (6 * k + v)
      unfold tenV
      by_cases w : k = s.2.2
      · rw [if_pos w, if_pos (show 6 * s.2.2 ≤ 6 * k + v ∧ 6 * k + v < 6 * s.2.2 + 6 by omega)]
        exact if_pos hv
      · rw [if_neg w, if_neg (show ¬ (6 * s.2.2 ≤ 6 * k + v ∧ 6 * k + v < 6 * s.2.2 + 6) by omega)]
        exact r4 k (by omega) v hv
    · have hk : k < s.2.2 + 1 := hk
      show ∃ n, 1 ≤ n ∧ n ≤ 9 ∧ upd m.2.2.2.1 s.2.2 (Int32.ofNat x) k = Int32.ofNat n
      by_cases w : k = s.2.2
      · rw [w, u_at]; exact ⟨x, kx.1, kx.2, rfl⟩
      · rw [u_ne w]; exact (r5 k (by omega)).1
    · have hk : k < s.2.2 + 1 := hk
      show upd m.2.2.2.2.1 s.2.2 (Int32.ofInt 0) k = 0 ∨ upd m.2.2.2.2.1 s.2.2 (Int32.ofInt 0) k = 1
      by_cases w : k = s.2.2
      · rw [w, u_at]; exact Or.inl rfl
      · rw [u_ne w]; exact (r5 k (by omega)).2.1
    · have hk : k < s.2.2 + 1 := hk
      show ∃ n, n < 100 ∧ tenV m.2.2.2.2.2 s.2.2 6 (6 * k + v) = Int32.ofNat n
      unfold tenV
      by_cases w : k = s.2.2
      · rw [if_pos (show 6 * s.2.2 ≤ 6 * k + v ∧ 6 * k + v < 6 * s.2.2 + 6 by omega)]; exact ⟨10, by decide, rfl⟩
      · rw [if_neg (show ¬ (6 * s.2.2 ≤ 6 * k + v ∧ 6 * k + v < 6 * s.2.2 + 6) by omega)]; exact (r5 k (by omega)).2.2 v hv
  | i + 4, k =>
    have k : x < s.2.2 ∧ y < 6 ∧ z < 100 := k
    obtain ⟨r1, r2, r3, r4, r5⟩ := r
    refine ⟨r1, r2, r3, fun k' hk v hv => ?_, fun k' hk => ⟨(r5 k' hk).1, (r5 k' hk).2.1, fun v hv => ?_⟩⟩
    rotate_left
    · show ∃ n, n < 100 ∧ upd m.2.2.2.2.2 (6 * x + y) (Int32.ofNat z) (6 * k' + v) = Int32.ofNat n
      by_cases w : 6 * k' + v = 6 * x + y
      · rw [w, u_at]; exact ⟨z, k.2.2, rfl⟩
      · rw [u_ne w]; exact (r5 k' hk).2.2 v hv
    have hk : k' < s.2.2 := hk
    show (if k' = x then upd (c.2.2.2.2.1 x) y (Int32.ofNat z) else c.2.2.2.2.1 k') v = upd m.2.2.2.2.2 (6 * x + y) (Int32.ofNat z) (6 * k' + v)
    by_cases w : k' = x
    · subst w
      rw [if_pos rfl]
      by_cases w2 : v = y
      · rw [w2, u_at, u_at]
      · rw [u_ne w2, u_ne (by omega)]; exact r4 k' hk v hv
    · rw [if_neg w, u_ne (by omega)]; exact r4 k' hk v hv
theorem RPs_do {s : Sg} {m : MF} {a : Act} (k : actOk s a) (r : RPs s m.1) : RPs (sgDo s a) (mfDo m a).1 := by
  obtain ⟨i, x, y, z⟩ := a
  match i, k with
  | 0, k =>
    intro j hj
    show okPl (x * y) (j : Int) (szJ (Int32.ofNat x) (Int32.ofNat y) m.1 (2 + j)).toInt
    rcases (show j = 0 ∨ j = 1 ∨ j = 2 ∨ j = 3 by omega) with rfl | rfl | rfl | rfl
    · exact okPl_n (r 0 hj) (Or.inl rfl)
    · exact Or.inr (Or.inl ⟨Or.inl rfl, Or.inl rfl⟩)
    · exact Or.inr (Or.inl ⟨Or.inr rfl, Or.inl rfl⟩)
    · exact okPl_n (r 3 hj) (Or.inr rfl)
  | 1, k => exact r
  | 2, k =>
    have k1 : x < 4 ∧ y < 100 ∧ okPl (s.1 * s.2.1) x y := k
    intro j hj
    show okPl (s.1 * s.2.1) (j : Int) (upd m.1 (2 + x) (Int32.ofNat y) (2 + j)).toInt
    by_cases w : j = x
    · rw [w, u_at, ofN_toInt (by omega)]; exact k1.2.2
    · rw [u_ne (by omega)]; exact r j hj
  | 3, k =>
    intro j hj
    show okPl (s.1 * s.2.1) (j : Int) (upd m.1 6 (Int32.ofNat ((m.1 6).toNatClampNeg + 1)) (2 + j)).toInt
    rw [u_ne (by omega)]
    exact r j hj
  | i + 4, k => exact r
theorem RB_ok : relOk RB := by
  refine ⟨fun c m m' r q => ⟨RN_ok.1 c m m' r.1 q, fun s hs => ⟨RSs_c (r.2 s hs).1 rfl q.2, RPs_J (r.2 s hs).2 q.1⟩⟩, fun c m s a r q p k => ?_, fun a b m r => ?_, fun c m m' g r => ?_, fun c m r => r.1, fun c m s k v r q hk hv => ?_⟩
  · have z := sg_do q p k
    obtain ⟨s', sI, -, gF, -⟩ := RN_sg r.1
    have e : s' = s := sgI_inj sI q
    subst e
    exact RB_mk (RN_ok.2.1 c m s' a r.1 q p k) z.1 (RSs_do gF q p k (r.2 s' q).1) (RPs_do k (r.2 s' q).2)
  · obtain ⟨s, sI, -⟩ := RN_sgI r.1
    have sI2 : sgI (cfBecome a b) s := ⟨(bc_I a.1 b.1 0 (by decide)).trans sI.1, (bc_I a.1 b.1 1 (by decide)).trans sI.2.1, (bc_I a.1 b.1 11 (by decide)).trans sI.2.2.1, sI.2.2.2⟩
    exact RB_mk (RN_ok.2.2.1 a b m r.1) sI2 (RSs_bec sI.2.2.2.2.2.2.2 (r.2 s sI).1) (r.2 s sI).2
  · obtain ⟨s, sI, -, gF, -⟩ := RN_sg r.1
    exact RB_mk (RN_ok.2.2.2.1 c m m' g r.1) sI (RSs_back (gdF_n gF).1 sI.2.2.2.2.2.2.2 (r.2 s sI).1 m' g) (RPs_J (r.2 s sI).2 (fun j hj => bk_sv j hj))
  · have sI2 : sgI (upd c.1 (7 + k) v, c.2) s := ⟨(u_ne (show (0 : Nat) ≠ 7 + k by omega)).trans q.1, (u_ne (show (1 : Nat) ≠ 7 + k by omega)).trans q.2.1, (u_ne (show (11 : Nat) ≠ 7 + k by omega)).trans q.2.2.1, q.2.2.2⟩
    refine RB_mk (RN_ok.2.2.2.2.2 c m s k v r.1 q hk hv) sI2 (RSs_c (r.2 s q).1 rfl rfl) (fun j hj => ?_)
    show okPl (s.1 * s.2.1) (j : Int) (upd m.1 (2 + k) v (2 + j)).toInt
    by_cases w : j = k
    · rw [w, u_at]; exact hv
    · rw [u_ne (by omega)]; exact (r.2 s q).2 j hj
theorem RB_no : noOw RB := fun c m o1 o2 r => by
  refine ⟨RN_J (m' := (m.1, m.2.1, o2, m.2.2.2)) (RN_C (c' := (c.1, c.2.1, c.2.2.1, c.2.2.2.1, c.2.2.2.2.1, c.2.2.2.2.2.1, o1)) r.1 (fun _ _ => rfl) (fun _ _ _ => rfl)) (fun _ _ => rfl), fun s hs => ?_⟩
  exact r.2 s hs
