/-! ===== texts: one word alone stands ===== -/
theorem al_iff {T : Nat → Int32} {p v : Nat} : ∀ f i, alS T p v f i = i + f ↔ ∀ j, j < f → T (p + (i + j)) = sTxC v (i + j) := by
  intro f
  induction f with
  | zero => intro i; exact ⟨fun _ j hj => by omega, fun _ => rfl⟩
  | succ f ih =>
    intro i
    have le := alS_le T p v f (i + 1)
    unfold alS
    by_cases c : T (p + i) = sTxC v i
    · rw [if_pos c, show i + (f + 1) = (i + 1) + f by omega, ih (i + 1)]
      refine ⟨fun h j hj => ?_, fun h j hj => ?_⟩
      · cases j with
        | zero => exact c
        | succ j => have := h j (by omega); rw [show i + 1 + j = i + (j + 1) by omega] at this; exact this
      · have := h (j + 1) (by omega)
        rw [show i + (j + 1) = i + 1 + j by omega] at this
        exact this
    · rw [if_neg c]
      exact ⟨fun h => by omega, fun h => absurd (h 0 (by omega)) c⟩
theorem am_iff {T wd : Nat → Int32} {p c0 : Nat} : ∀ f i, amS T wd p c0 f i = i + f ↔ ∀ j, j < f → T (p + (i + j)) = wd (c0 + (i + j)) := by
  intro f
  induction f with
  | zero => intro i; exact ⟨fun _ j hj => by omega, fun _ => rfl⟩
  | succ f ih =>
    intro i
    have le := amS_le T wd p c0 f (i + 1)
    unfold amS
    by_cases c : T (p + i) = wd (c0 + i)
    · rw [if_pos c, show i + (f + 1) = (i + 1) + f by omega, ih (i + 1)]
      refine ⟨fun h j hj => ?_, fun h j hj => ?_⟩
      · cases j with
        | zero => exact c
        | succ j => have := h j (by omega); rw [show i + 1 + j = i + (j + 1) by omega] at this; exact this
      · have := h (j + 1) (by omega)
        rw [show i + (j + 1) = i + 1 + j by omega] at this
        exact this
    · rw [if_neg c]
      exact ⟨fun h => by omega, fun h => absurd (h 0 (by omega)) c⟩
/-- a word's letters stand -/
def mWd (T : Nat → Int32) (p v : Nat) : Prop := alS T p v (wlS v) 0 = wlS v
theorem wd_32 {wd : Nat → Int32} (W : WD wd) : ∀ v, v < 7 → (∀ i, i < wlS v → wd (stS v + i) = sTxC v i) ∧ wd (stS v + wlS v) = 32 := by
  intro v hv
  have hz := st_z v hv
  refine ⟨fun i hi => Int32.toInt_inj.mp (by rw [W _ (by omega), st_let v hv i hi]), Int32.toInt_inj.mp (by rw [W _ (by omega), st_bl v hv]; rfl)⟩
theorem full_iff {T wd : Nat → Int32} {p v : Nat} (W : WD wd) (hv : v < 7) : amS T wd p (stS v) (wlS v + 1) 0 = wlS v + 1 ↔ (mWd T p v ∧ T (p + wlS v) = 32) := by
  obtain ⟨w1, w2⟩ := wd_32 W v hv
  have a := am_iff (T := T) (wd := wd) (p := p) (c0 := stS v) (wlS v + 1) 0
  have b := al_iff (T := T) (p := p) (v := v) (wlS v) 0
  rw [Nat.zero_add] at a b
  unfold mWd
  rw [a, b]
  refine ⟨fun h => ⟨fun j hj => ?_, ?_⟩, fun h j hj => ?_⟩
  · have := h j (by omega)
    rw [Nat.zero_add] at this ⊢
    rw [this, w1 j hj]
  · have := h (wlS v) (by omega)
    rw [Nat.zero_add] at this
    rw [this, w2]
  · rw [Nat.zero_add]
    by_cases e : j < wlS v
    · have := h.1 j e
      rw [Nat.zero_add] at this
      rw [this, w1 j e]
    · rw [show j = wlS v by omega, h.2, w2]
theorem two_let : ∀ v, v < 7 → ∀ u, u < 7 → (sTxC v 0).toInt = (sTxC u 0).toInt → (sTxC v 1).toInt = (sTxC u 1).toInt → v = u := by decide
theorem wl_2 : ∀ v, v < 7 → 2 ≤ wlS v := by decide
theorem mW_one {T : Nat → Int32} {p v u : Nat} (hv : v < 7) (hu : u < 7) (a : mWd T p v) (b : mWd T p u) : v = u := by
  have a' := (al_iff (T := T) (p := p) (v := v) (wlS v) 0).mp (by rw [Nat.zero_add]; exact a)
  have b' := (al_iff (T := T) (p := p) (v := u) (wlS u) 0).mp (by rw [Nat.zero_add]; exact b)
  have l1 := wl_2 v hv
  have l2 := wl_2 u hu
  exact two_let v hv u hu (congrArg Int32.toInt ((a' 0 (by omega)).symm.trans (b' 0 (by omega)))) (congrArg Int32.toInt ((a' 1 (by omega)).symm.trans (b' 1 (by omega))))
theorem wdS_iff {T : Nat → Int32} {p : Nat} : ∀ {f v x : Nat}, v + f ≤ 7 → (wdS T p f v = some x ↔ (v ≤ x ∧ x < v + f ∧ mWd T p x)) := by
  intro f
  induction f with
  | zero => intro v x _; exact ⟨fun h => (by cases h), fun h => (by omega)⟩
  | succ f ih =>
    intro v x hl
    unfold wdS
    by_cases c : alS T p v (wlS v) 0 = wlS v
    · rw [if_pos c]
      refine ⟨fun h => ?_, fun h => ?_⟩
      · cases h
        exact ⟨Nat.le_refl _, by omega, c⟩
      · exact congrArg some (mW_one (by omega) (by omega) c h.2.2)
    · rw [if_neg c, ih (by omega)]
      refine ⟨fun h => ⟨by omega, by omega, h.2.2⟩, fun h => ⟨?_, by omega, h.2.2⟩⟩
      by_cases e : v = x
      · rw [e] at c
        exact absurd h.2.2 c
      · omega
theorem fwS_iff {T wd : Nat → Int32} {p : Nat} (W : WD wd) : ∀ {f v x : Nat}, v + f ≤ 7 → (fwS T wd p f v = some x ↔ (v ≤ x ∧ x < v + f ∧ mWd T p x ∧ T (p + wlS x) = 32)) := by
  intro f
  induction f with
  | zero => intro v x _; exact ⟨fun h => (by cases h), fun h => (by omega)⟩
  | succ f ih =>
    intro v x hl
    unfold fwS
    have fi := full_iff (T := T) (p := p) W (show v < 7 by omega)
    by_cases c : amS T wd p (stS v) (wlS v + 1) 0 = wlS v + 1
    · rw [if_pos c]
      have c2 := fi.mp c
      refine ⟨fun h => ?_, fun h => ?_⟩
      · cases h
        exact ⟨Nat.le_refl _, by omega, c2.1, c2.2⟩
      · exact congrArg some (mW_one (by omega) (by omega) c2.1 h.2.2.1)
    · rw [if_neg c, ih (by omega)]
      refine ⟨fun h => ⟨by omega, by omega, h.2.2⟩, fun h => ⟨?_, by omega, h.2.2⟩⟩
      by_cases e : v = x
      · rw [e] at c fi
        exact absurd (fi.mpr h.2.2) c
      · omega
/-- the item as the reference reads it is the class's -/
theorem itm_fw {T wd : Nat → Int32} {p : Nat} {s : Sg} (W : WD wd) (h5 : s.2.2 ≤ 5) : (alS T p 6 4 0 = 4 ∧ s.2.2 = 5 → itmS T p s = none) ∧ (¬ (alS T p 6 4 0 = 4 ∧ s.2.2 = 5) → (fwS T wd p 7 0 = none → itmS T p s = none) ∧ ∀ v, fwS T wd p 7 0 = some v → v < 7 ∧ wdS T p (if s.2.2 < 5 then 7 else 6) 0 = some v ∧ T (p + wlS v) = 32 ∧ (v = 6 → s.2.2 < 5)) := by
  have nx : ∀ v lo hi, ¬ T (p + wlS v) = 32 → nxtS T (p + wlS v) lo hi = none := fun v lo hi h => if_neg h
  have none_of : ∀ v, wdS T p (if s.2.2 < 5 then 7 else 6) 0 = some v → ¬ T (p + wlS v) = 32 → itmS T p s = none := by
    intro v hw hn
    have vl := wdS_lt hw
    have v7 : v < 7 := by
      by_cases c5 : s.2.2 < 5
      · rw [if_pos c5] at vl; omega
      · rw [if_neg c5] at vl; omega
    unfold itmS
    rw [hw]
    match v, v7, hn with
    | 0, _, hn => show sizS T (p + wlS 0) = none; unfold sizS; rw [nx 0 _ _ hn]
    | 1, _, hn => show soiS T (p + wlS 1) _ = none; unfold soiS; rw [nx 1 _ _ hn]
    | 2, _, hn => show plcS T (p + wlS 2) _ _ _ = none; unfold plcS; rw [nx 2 _ _ hn]
    | 3, _, hn => show plcS T (p + wlS 3) _ _ _ = none; unfold plcS; rw [nx 3 _ _ hn]
    | 4, _, hn => show plcS T (p + wlS 4) _ _ _ = none; unfold plcS; rw [nx 4 _ _ hn]
    | 5, _, hn => show plcS T (p + wlS 5) _ _ _ = none; unfold plcS; rw [nx 5 _ _ hn]
    | 6, _, hn => show heiS T (p + wlS 6) _ = none; unfold heiS; rw [nx 6 _ _ hn]
    | k + 7, v7, _ => exact absurd v7 (by omega)
  have w67 : ∀ v, wdS T p (if s.2.2 < 5 then 7 else 6) 0 = some v ↔ (v < (if s.2.2 < 5 then 7 else 6) ∧ mWd T p v) := by
    intro v
    rw [wdS_iff (show 0 + (if s.2.2 < 5 then 7 else 6) ≤ 7 by split <;> omega)]
    exact ⟨fun h => ⟨by omega, h.2.2⟩, fun h => ⟨Nat.zero_le _, by omega, h.2⟩⟩
  have nn : wdS T p (if s.2.2 < 5 then 7 else 6) 0 = none → itmS T p s = none := fun h => by unfold itmS; rw [h]
  refine ⟨fun h => ?_, fun h => ⟨fun hf => ?_, fun v hf => ?_⟩⟩
  · refine nn ?_
    cases hw : wdS T p (if s.2.2 < 5 then 7 else 6) 0 with
    | none => rfl
    | some v =>
      have k := (w67 v).mp hw
      rw [if_neg (by omega)] at k
      have := mW_one (show 6 < 7 by decide) (by omega) (show mWd T p 6 from h.1) k.2
      omega
  · cases hw : wdS T p (if s.2.2 < 5 then 7 else 6) 0 with
    | none => exact nn hw
    | some v =>
      refine none_of v hw (fun hb => ?_)
      have k := (w67 v).mp hw
      have v7 : v < 7 := by
        by_cases c5 : s.2.2 < 5
        · rw [if_pos c5] at k; omega
        · rw [if_neg c5] at k; omega
      have := (fwS_iff W (show 0 + 7 ≤ 7 by omega)).mpr ⟨Nat.zero_le _, by omega, k.2, hb⟩
      rw [hf] at this
      cases this
  · have k := (fwS_iff W (show 0 + 7 ≤ 7 by omega)).mp hf
    have k6 : v = 6 → s.2.2 < 5 := fun z => by
      by_cases c5 : s.2.2 < 5
      · exact c5
      · have k2 := k.2.2.1
        rw [z] at k2
        exact absurd ⟨k2, by omega⟩ h
    refine ⟨by omega, (w67 v).mpr ⟨?_, k.2.2.1⟩, k.2.2.2, k6⟩
    by_cases c5 : s.2.2 < 5
    · rw [if_pos c5]; omega
    · rw [if_neg c5]
      have : ¬ v = 6 := fun z => c5 (k6 z)
      omega
