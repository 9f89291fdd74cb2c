/-! ===== the reference's items: the ints they leave ===== -/
theorem mS_do {m m' : MF} (q : mS m m') (a : Act) : mS (mfDo m a) (mfDo m' a) := by
  obtain ⟨J, R⟩ := m
  obtain ⟨J', R'⟩ := m'
  obtain ⟨q1, q2⟩ := q
  have q2 : R' = R := q2
  subst q2
  obtain ⟨k, x, y, z⟩ := a
  match k with
  | 0 => exact ⟨jS_upd (jS_upd (jS_upd (jS_upd q1))), rfl⟩
  | 1 => exact ⟨q1, rfl⟩
  | 2 => exact ⟨jS_upd q1, rfl⟩
  | 3 =>
    have e : J' 6 = J 6 := q1 6 (by decide) (by decide) (by decide)
    show mS (mfHeir (J 6).toNatClampNeg (Int32.ofNat x) (J, R')) (mfHeir (J' 6).toNatClampNeg (Int32.ofNat x) (J', R'))
    rw [e]
    exact ⟨jS_upd q1, rfl⟩
  | k + 4 => exact ⟨q1, rfl⟩
theorem mS_dos {m m' : MF} (q : mS m m') : ∀ as : List Act, mS (as.foldl mfDo m) (as.foldl mfDo m') := by
  intro as
  induction as generalizing m m' with
  | nil => exact q
  | cons a as ih => exact ih (mS_do q a)
theorem mS_tr {m m1 m2 : MF} (a : mS m m1) (b : mS m1 m2) : mS m m2 := ⟨jS_tr a.1 b.1, b.2.trans a.2⟩
theorem sgJ_S {J J' : Nat → Int32} {s : Sg} (a : jS J J') (q : sgJ J s) : sgJ J' s := ⟨(a 0 (by decide) (by decide) (by decide)).trans q.1, (a 1 (by decide) (by decide) (by decide)).trans q.2.1, (a 6 (by decide) (by decide) (by decide)).trans q.2.2.1, q.2.2.2⟩
theorem sgm_wrt {T : Nat → Int32} {E : Nat} : ∀ {f v p : Nat} {as : List Act} {p2 : Nat} {m : MF} {s : Sg}, wrtS T E f v p = some (as, p2) → sgJ m.1 s → sgJ (as.foldl mfDo m).1 (as.foldl sgDo s) ∧ p ≤ p2 ∧ p2 ≤ p + 3 * f := by
  intro f
  induction f with
  | zero =>
    intro v p as p2 m s h q
    cases h
    exact ⟨q, Nat.le_refl _, Nat.le_refl _⟩
  | succ f ih =>
    intro v p as p2 m s h q
    unfold wrtS at h
    cases h1 : nxtS T p 0 99 with
    | none => rw [h1] at h; cases h
    | some vp =>
      obtain ⟨x, p'⟩ := vp
      have b := nxtS_le h1
      rw [h1] at h
      dsimp only at h
      cases h2 : wrtS T E f (v + 1) p' with
      | none => rw [h2] at h; cases h
      | some q2 =>
        obtain ⟨bs, p3⟩ := q2
        rw [h2] at h
        cases h
        have k := ih (m := mfDo m (4, E, v, x)) (s := sgDo s (4, E, v, x)) h2 q
        exact ⟨k.1, by omega, by omega⟩
theorem sgm_itm {T : Nat → Int32} {p p2 : Nat} {as : List Act} {m : MF} {s : Sg} (h : itmS T p s = some (as, p2)) (q : sgJ m.1 s) : sgJ (as.foldl mfDo m).1 (as.foldl sgDo s) ∧ p + 1 ≤ p2 ∧ p2 ≤ p + 40 := by
  have q' := q
  obtain ⟨q1, q2, q3, q4, q5, q6, q7, q8⟩ := q'
  have plc : ∀ {p1 k : Nat} {lo hi : Int}, k ≤ 3 → plcS T p1 k lo hi = some (as, p2) → sgJ (as.foldl mfDo m).1 (as.foldl sgDo s) ∧ p1 + 1 ≤ p2 ∧ p2 ≤ p1 + 3 := by
    intro p1 k lo hi hk h
    unfold plcS at h
    cases h1 : nxtS T p1 lo hi with
    | none => rw [h1] at h; cases h
    | some vp =>
      obtain ⟨x, p'⟩ := vp
      have b := nxtS_le h1
      rw [h1] at h
      cases h
      exact ⟨⟨(u_ne (show (0 : Nat) ≠ 2 + k by omega)).trans q1, (u_ne (show (1 : Nat) ≠ 2 + k by omega)).trans q2, (u_ne (show (6 : Nat) ≠ 2 + k by omega)).trans q3, q4, q5, q6, q7, q8⟩, by omega, by omega⟩
  unfold itmS at h
  cases hw : wdS T p (if s.2.2 < 5 then 7 else 6) 0 with
  | none => rw [hw] at h; cases h
  | some v =>
    rw [hw] at h
    have vl := wdS_lt hw
    have wl := wlS_le v
    have v7 : v < 7 := by
      by_cases c5 : s.2.2 < 5
      · rw [if_pos c5] at vl; omega
      · rw [if_neg c5] at vl; omega
    have h6 : v = 6 → s.2.2 < 5 := fun z => by
      by_cases c5 : s.2.2 < 5
      · exact c5
      · rw [if_neg c5] at vl; omega
    match v, v7, wl, h6, h with
    | 0, _, wl, _, h =>
      have h : sizS T (p + wlS 0) = some (as, p2) := h
      unfold sizS at h
      cases h1 : nxtS T (p + wlS 0) 2 8 with
      | none => rw [h1] at h; cases h
      | some vp =>
        obtain ⟨x, p'⟩ := vp
        have b := nxtS_le h1
        rw [h1] at h
        dsimp only at h
        cases h2 : nxtS T p' 2 8 with
        | none => rw [h2] at h; cases h
        | some vp2 =>
          obtain ⟨y, p3⟩ := vp2
          have b2 := nxtS_le h2
          rw [h2] at h
          cases h
          exact ⟨⟨rfl, rfl, q3, show 2 ≤ x by omega, show x ≤ 8 by omega, show 2 ≤ y by omega, show y ≤ 8 by omega, q8⟩, by omega, by omega⟩
    | 1, _, wl, _, h =>
      have h : soiS T (p + wlS 1) (((s.1 * s.2.1 : Nat) : Int) - 1) = some (as, p2) := h
      unfold soiS at h
      cases h1 : nxtS T (p + wlS 1) 0 5 with
      | none => rw [h1] at h; cases h
      | some vp =>
        obtain ⟨x, p'⟩ := vp
        have b := nxtS_le h1
        rw [h1] at h
        dsimp only at h
        cases h2 : nxtS T p' 0 (((s.1 * s.2.1 : Nat) : Int) - 1) with
        | none => rw [h2] at h; cases h
        | some vp2 =>
          obtain ⟨y, p3⟩ := vp2
          have b2 := nxtS_le h2
          rw [h2] at h
          dsimp only at h
          cases h3 : nxtS T p3 y (((s.1 * s.2.1 : Nat) : Int) - 1) with
          | none => rw [h3] at h; cases h
          | some vp3 =>
            obtain ⟨z, p4⟩ := vp3
            have b3 := nxtS_le h3
            rw [h3] at h
            cases h
            exact ⟨q, by omega, by omega⟩
    | 2, _, wl, _, h => have k := plc (by decide) h; exact ⟨k.1, by omega, by omega⟩
    | 3, _, wl, _, h => have k := plc (by decide) h; exact ⟨k.1, by omega, by omega⟩
    | 4, _, wl, _, h => have k := plc (by decide) h; exact ⟨k.1, by omega, by omega⟩
    | 5, _, wl, _, h => have k := plc (by decide) h; exact ⟨k.1, by omega, by omega⟩
    | 6, _, wl, h6, h =>
      have h5 := h6 rfl
      have h : heiS T (p + wlS 6) s.2.2 = some (as, p2) := h
      unfold heiS at h
      cases h1 : nxtS T (p + wlS 6) 1 9 with
      | none => rw [h1] at h; cases h
      | some vp =>
        obtain ⟨x, p'⟩ := vp
        have b := nxtS_le h1
        rw [h1] at h
        dsimp only at h
        cases h2 : wrtS T s.2.2 6 0 p' with
        | none => rw [h2] at h; cases h
        | some vp2 =>
          obtain ⟨bs, p3⟩ := vp2
          rw [h2] at h
          cases h
          have hcl : (m.1 6).toNatClampNeg = s.2.2 := by rw [q3]; exact i_nat (ofN_toInt (by omega))
          have k := sgm_wrt (m := mfDo m (3, x, 0, 0)) (s := sgDo s (3, x, 0, 0)) h2 ⟨q1, q2, show Int32.ofNat ((m.1 6).toNatClampNeg + 1) = Int32.ofNat (s.2.2 + 1) by rw [hcl], q4, q5, q6, q7, show s.2.2 + 1 ≤ 5 by omega⟩
          exact ⟨k.1, by omega, by omega⟩
    | k + 7, v7, _, _, _ => exact absurd v7 (by omega)
