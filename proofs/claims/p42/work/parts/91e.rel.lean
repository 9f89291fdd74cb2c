/-! ===== what is alike of two fields ===== -/
def szC (W H : Nat) : Bool := decide (lowS (Int32.ofNat W * Int32.ofNat H) = stO (fun _ => true) (W * H)) && (decide (fcS (Int32.ofNat W) H = stO (fun i => decide (i % W = 0)) (W * H)) && (decide (fcS (Int32.ofNat W) H <<< ((Int32.ofNat W - Int32.ofInt 1).toInt64 &&& 63) = stO (fun i => decide (i % W = W - 1)) (W * H)) && (decide (lowS (Int32.ofNat W) = stO (fun i => decide (i < W)) (W * H)) && decide (lowS (Int32.ofNat W) <<< ((Int32.ofNat W * (Int32.ofNat H - Int32.ofInt 1)).toInt64 &&& 63) = stO (fun i => decide (W * (H - 1) ≤ i)) (W * H)))))
theorem sz_ck : ((List.range 9).all fun W => (List.range 9).all fun H => Nat.blt W 2 || (Nat.blt H 2 || szC W H)) = true := by decide +kernel
theorem blt_n {a b : Nat} (h : b ≤ a) : Nat.blt a b = false := by
  cases z : Nat.blt a b
  · rfl
  · have := Nat.le_of_ble_eq_true z; omega
theorem gdF_size {c : CF} {W H : Nat} (w2 : 2 ≤ W) (w8 : W ≤ 8) (h2 : 2 ≤ H) (h8 : H ≤ 8) : gdF (cfSize (Int32.ofNat W) (Int32.ofNat H) c) W H := by
  have h := rg_all (rg_all sz_ck W (by omega)) H (by omega)
  rw [blt_n w2, blt_n h2, Bool.false_or, Bool.false_or] at h
  unfold szC at h
  simp only [Bool.and_eq_true, decide_eq_true_eq] at h
  obtain ⟨a1, a2, a3, a4, a5⟩ := h
  have eH : (Int32.ofNat H).toInt.toNat = H := by rw [ofN_toInt (by omega)]; rfl
  have key : ∀ G : Nat → Int64, szG (Int32.ofNat W) (Int32.ofNat H) G 2 = lowS (Int32.ofNat W * Int32.ofNat H) ∧ szG (Int32.ofNat W) (Int32.ofNat H) G 3 = fcS (Int32.ofNat W) H ∧ szG (Int32.ofNat W) (Int32.ofNat H) G 4 = fcS (Int32.ofNat W) H <<< ((Int32.ofNat W - Int32.ofInt 1).toInt64 &&& 63) ∧ szG (Int32.ofNat W) (Int32.ofNat H) G 5 = lowS (Int32.ofNat W) ∧ szG (Int32.ofNat W) (Int32.ofNat H) G 6 = lowS (Int32.ofNat W) <<< ((Int32.ofNat W * (Int32.ofNat H - Int32.ofInt 1)).toInt64 &&& 63) := by
    intro G
    unfold szG
    rw [eH]
    exact ⟨rfl, rfl, rfl, rfl, rfl⟩
  obtain ⟨b1, b2, b3, b4, b5⟩ := key c.2.1
  exact ⟨rfl, rfl, w2, w8, h2, h8, b1.trans a1, b2.trans a2, b3.trans a3, b4.trans a4, b5.trans a5⟩
/-- ints and longs alike -/
def RN (c : CF) (m : MF) : Prop := ∃ W H N : Nat, gdF c W H ∧ N ≤ 5 ∧ c.1 11 = Int32.ofNat N ∧ m.1 0 = Int32.ofNat W ∧ m.1 1 = Int32.ofNat H ∧ m.1 6 = Int32.ofNat N ∧ ∀ k, k ≤ 3 → c.1 (7 + k) = m.1 (2 + k)
/-- what a relation of fields must bear -/
def relOk (Rel : CF → MF → Prop) : Prop := (∀ c m m', Rel c m → mQ m m' → Rel c m') ∧ (∀ c m s a, Rel c m → sgI c s → sgJ m.1 s → actOk s a → Rel (cfDo c a) (mfDo m a)) ∧ (∀ a b m, Rel a m → Rel (cfBecome a b) m) ∧ (∀ c m m' g, Rel c m → Rel c (mfBack m' (svF m g))) ∧ (∀ c m, Rel c m → RN c m) ∧ (∀ (c : CF) (m : MF) (s : Sg) (k : Nat) (v : Int32), Rel c m → sgI c s → k ≤ 3 → okPl (s.1 * s.2.1) (k : Int) v.toInt → Rel (upd c.1 (7 + k) v, c.2) (upd m.1 (2 + k) v, m.2))
theorem RN_sg {c : CF} {m : MF} (r : RN c m) : ∃ s : Sg, sgI c s ∧ sgJ m.1 s ∧ gdF c s.1 s.2.1 ∧ gdM m.1 s.1 s.2.1 := by
  obtain ⟨W, H, N, g, hN, c11, m0, m1, m6, -⟩ := r
  have g' := g
  obtain ⟨g0, g1, w2, w8, h2, h8, -⟩ := g'
  exact ⟨(W, H, N), ⟨g0, g1, c11, w2, w8, h2, h8, hN⟩, ⟨m0, m1, m6, w2, w8, h2, h8, hN⟩, g, ⟨m0, m1, w2, w8, h2, h8⟩⟩
theorem sg_do {c : CF} {m : MF} {s : Sg} {a : Act} (q : sgI c s) (p : sgJ m.1 s) (k : actOk s a) : sgI (cfDo c a) (sgDo s a) ∧ sgJ (mfDo m a).1 (sgDo s a) := by
  obtain ⟨q1, q2, q3, q4, q5, q6, q7, q8⟩ := q
  obtain ⟨p1, p2, p3, -⟩ := p
  obtain ⟨i, x, y, z⟩ := a
  match i, k with
  | 0, k => exact ⟨⟨rfl, rfl, q3, k.1, k.2.1, k.2.2.1, k.2.2.2, q8⟩, ⟨rfl, rfl, p3, k.1, k.2.1, k.2.2.1, k.2.2.2, q8⟩⟩
  | 1, k => exact ⟨⟨q1, q2, q3, q4, q5, q6, q7, q8⟩, ⟨p1, p2, p3, q4, q5, q6, q7, q8⟩⟩
  | 2, k =>
    have k1 : x < 4 := k.1
    exact ⟨⟨(u_ne (show (0 : Nat) ≠ 7 + x by omega)).trans q1, (u_ne (show (1 : Nat) ≠ 7 + x by omega)).trans q2, (u_ne (show (11 : Nat) ≠ 7 + x by omega)).trans q3, q4, q5, q6, q7, q8⟩, ⟨(u_ne (show (0 : Nat) ≠ 2 + x by omega)).trans p1, (u_ne (show (1 : Nat) ≠ 2 + x by omega)).trans p2, (u_ne (show (6 : Nat) ≠ 2 + x by omega)).trans p3, q4, q5, q6, q7, q8⟩⟩
  | 3, k =>
    have eN := ofN_toInt (n := s.2.2) (by omega)
    have e1 : (c.1 11).toNatClampNeg = s.2.2 := by rw [q3]; exact i_nat eN
    have e2 : (m.1 6).toNatClampNeg = s.2.2 := by rw [p3]; exact i_nat eN
    have k3 : s.2.2 < 5 := k.2.2
    refine ⟨?_, ?_⟩
    · show sgI (cfHeir (c.1 11).toNatClampNeg (Int32.ofNat x) c) (s.1, s.2.1, s.2.2 + 1)
      rw [e1]
      exact ⟨q1, q2, rfl, q4, q5, q6, q7, k3⟩
    · show sgJ (mfHeir (m.1 6).toNatClampNeg (Int32.ofNat x) m).1 (s.1, s.2.1, s.2.2 + 1)
      rw [e2]
      exact ⟨p1, p2, rfl, q4, q5, q6, q7, k3⟩
  | i + 4, k => exact ⟨⟨q1, q2, q3, q4, q5, q6, q7, q8⟩, ⟨p1, p2, p3, q4, q5, q6, q7, q8⟩⟩
theorem rel_dos {Rel : CF → MF → Prop} (ok : relOk Rel) : ∀ {as : List Act} {c : CF} {m : MF} {s : Sg}, Rel c m → sgI c s → sgJ m.1 s → actsOk s as → Rel (as.foldl cfDo c) (as.foldl mfDo m) := by
  intro as
  induction as with
  | nil => intro c m s r _ _ _; exact r
  | cons a as ih =>
    intro c m s r q p k
    have z := sg_do q p k.1
    exact ih (ok.2.1 c m s a r q p k.1) z.1 z.2 k.2
theorem gdF_I {c c' : CF} {W H : Nat} (g : gdF c W H) (e0 : c'.1 0 = c.1 0) (e1 : c'.1 1 = c.1 1) (e2 : ∀ j, 2 ≤ j → j ≤ 6 → c'.2.1 j = c.2.1 j) : gdF c' W H := by
  obtain ⟨g0, g1, w2, w8, h2, h8, a, b, c, d, e⟩ := g
  exact ⟨e0.trans g0, e1.trans g1, w2, w8, h2, h8, (e2 2 (by decide) (by decide)).trans a, (e2 3 (by decide) (by decide)).trans b, (e2 4 (by decide) (by decide)).trans c, (e2 5 (by decide) (by decide)).trans d, (e2 6 (by decide) (by decide)).trans e⟩
theorem bk_at (J g : Nat → Int32) : ∀ j, j < 7 → bkJ J g j = g (168 + j) := fun j hj => by
  match j, hj with
  | 0, _ => rfl
  | 1, _ => rfl
  | 2, _ => rfl
  | 3, _ => rfl
  | 4, _ => rfl
  | 5, _ => rfl
  | 6, _ => rfl
  | j + 7, hj => exact absurd hj (by omega)
theorem RN_J {c : CF} {m m' : MF} (r : RN c m) (e : ∀ j, j < 7 → m'.1 j = m.1 j) : RN c m' := by
  obtain ⟨W, H, N, g, hN, c11, m0, m1, m6, mk⟩ := r
  exact ⟨W, H, N, g, hN, c11, (e 0 (by decide)).trans m0, (e 1 (by decide)).trans m1, (e 6 (by decide)).trans m6, fun k hk => (mk k hk).trans (e (2 + k) (by omega)).symm⟩
theorem RN_C {c c' : CF} {m : MF} (r : RN c m) (e : ∀ j, j < 2 ∨ (7 ≤ j ∧ j ≤ 11) → c'.1 j = c.1 j) (e2 : ∀ j, 2 ≤ j → j ≤ 6 → c'.2.1 j = c.2.1 j) : RN c' m := by
  obtain ⟨W, H, N, g, hN, c11, m0, m1, m6, mk⟩ := r
  exact ⟨W, H, N, gdF_I g (e 0 (by decide)) (e 1 (by decide)) e2, hN, (e 11 (by decide)).trans c11, m0, m1, m6, fun k hk => (e (7 + k) (by omega)).trans (mk k hk)⟩
theorem bc_I (a b : Nat → Int32) : ∀ j, j < 2 ∨ (7 ≤ j ∧ j ≤ 11) → bcI a b j = a j := fun j hj => by
  rcases (show j = 0 ∨ j = 1 ∨ j = 7 ∨ j = 8 ∨ j = 9 ∨ j = 10 ∨ j = 11 by omega) with rfl | rfl | rfl | rfl | rfl | rfl | rfl <;> rfl
theorem bc_G (a b : Nat → Int64) : ∀ j, 2 ≤ j → j ≤ 6 → bcG a b j = a j := fun j h1 h2 => by
  rcases (show j = 2 ∨ j = 3 ∨ j = 4 ∨ j = 5 ∨ j = 6 by omega) with rfl | rfl | rfl | rfl | rfl <;> rfl
theorem RN_ok : relOk RN := by
  refine ⟨fun c m m' r q => RN_J r q.1, fun c m s a r q p k => ?_, fun a b m r => RN_C r (bc_I a.1 b.1) (bc_G a.2.1 b.2.1), fun c m m' g r => RN_J r (fun j hj => bk_sv j hj), fun c m r => r, fun c m s k v r q hk hv => ?_⟩
  · obtain ⟨W, H, N, g, hN, c11, m0, m1, m6, mk⟩ := r
    obtain ⟨i, x, y, z⟩ := a
    match i, k with
    | 0, k => exact ⟨x, y, N, gdF_size k.1 k.2.1 k.2.2.1 k.2.2.2, hN, c11, rfl, rfl, m6, fun j hj => by
        rcases (show j = 0 ∨ j = 1 ∨ j = 2 ∨ j = 3 by omega) with rfl | rfl | rfl | rfl
        · exact mk 0 (by decide)
        · rfl
        · rfl
        · exact mk 3 (by decide)⟩
    | 1, k => exact ⟨W, H, N, g, hN, c11, m0, m1, m6, mk⟩
    | 2, k =>
      have k1 : x < 4 := k.1
      refine ⟨W, H, N, gdF_I g (u_ne (by omega)) (u_ne (by omega)) (fun _ _ _ => rfl), hN, (u_ne (show (11 : Nat) ≠ 7 + x by omega)).trans c11, (u_ne (show (0 : Nat) ≠ 2 + x by omega)).trans m0, (u_ne (show (1 : Nat) ≠ 2 + x by omega)).trans m1, (u_ne (show (6 : Nat) ≠ 2 + x by omega)).trans m6, fun j hj => ?_⟩
      show upd c.1 (7 + x) (Int32.ofNat y) (7 + j) = upd m.1 (2 + x) (Int32.ofNat y) (2 + j)
      by_cases e : j = x
      · rw [e, u_at, u_at]
      · rw [u_ne (by omega), u_ne (by omega)]; exact mk j hj
    | 3, k =>
      have eN := ofN_toInt (n := N) (by omega)
      have e1 : (c.1 11).toNatClampNeg = N := by rw [c11]; exact i_nat eN
      have e2 : (m.1 6).toNatClampNeg = N := by rw [m6]; exact i_nat eN
      have k3 : s.2.2 < 5 := k.2.2
      have e3 : N = s.2.2 := by
        have := q.2.2.1
        rw [c11] at this
        have h2 := congrArg Int32.toInt this
        rw [ofN_toInt (by omega), ofN_toInt (by omega)] at h2
        omega
      show RN (cfHeir (c.1 11).toNatClampNeg (Int32.ofNat x) c) (mfHeir (m.1 6).toNatClampNeg (Int32.ofNat x) m)
      rw [e1, e2]
      refine ⟨W, H, N + 1, gdF_I g rfl rfl (fun _ _ _ => rfl), by omega, rfl, m0, m1, rfl, fun j hj => ?_⟩
      show upd c.1 11 (Int32.ofNat (N + 1)) (7 + j) = upd m.1 6 (Int32.ofNat (N + 1)) (2 + j)
      rw [u_ne (by omega), u_ne (by omega)]
      exact mk j hj
    | i + 4, k => exact ⟨W, H, N, g, hN, c11, m0, m1, m6, mk⟩
  · obtain ⟨W, H, N, g, hN, c11, m0, m1, m6, mk⟩ := r
    refine ⟨W, H, N, gdF_I g (u_ne (by omega)) (u_ne (by omega)) (fun _ _ _ => rfl), hN, (u_ne (show (11 : Nat) ≠ 7 + k by omega)).trans c11, (u_ne (show (0 : Nat) ≠ 2 + k by omega)).trans m0, (u_ne (show (1 : Nat) ≠ 2 + k by omega)).trans m1, (u_ne (show (6 : Nat) ≠ 2 + k by omega)).trans m6, fun j hj => ?_⟩
    show upd c.1 (7 + k) v (7 + j) = upd m.1 (2 + k) v (2 + j)
    by_cases e : j = k
    · rw [e, u_at, u_at]
    · rw [u_ne (by omega), u_ne (by omega)]; exact mk j hj
/-- FOND is 0 or 1 -/
def fb01 (c : CF) : Prop := ∀ k, k < 5 → c.2.2.2.2.2.1 k = 0 ∨ c.2.2.2.2.2.1 k = 1
theorem fb_do {c : CF} (h : fb01 c) (a : Act) : fb01 (cfDo c a) := by
  obtain ⟨i, x, y, z⟩ := a
  match i with
  | 0 => exact h
  | 1 => exact h
  | 2 => exact h
  | 3 =>
    intro k hk
    show upd c.2.2.2.2.2.1 (c.1 11).toNatClampNeg 0 k = 0 ∨ upd c.2.2.2.2.2.1 (c.1 11).toNatClampNeg 0 k = 1
    by_cases e : k = (c.1 11).toNatClampNeg
    · rw [e, u_at]; exact Or.inl rfl
    · rw [u_ne e]; exact h k hk
  | i + 4 => exact h
theorem fb_dos {c : CF} (h : fb01 c) : ∀ as : List Act, fb01 (as.foldl cfDo c) := by
  intro as
  induction as generalizing c with
  | nil => exact h
  | cons a as ih => exact ih (fb_do h a)
theorem fb_bc {a b : CF} (h : fb01 a) : fb01 (cfBecome a b) := fun k hk => by
  show cpI a.2.2.2.2.2.1 b.2.2.2.2.2.1 5 k = 0 ∨ cpI a.2.2.2.2.2.1 b.2.2.2.2.2.1 5 k = 1
  have e : cpI a.2.2.2.2.2.1 b.2.2.2.2.2.1 5 k = a.2.2.2.2.2.1 k := if_pos hk
  rw [e]; exact h k hk
