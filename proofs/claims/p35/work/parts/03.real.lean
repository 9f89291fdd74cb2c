/-! ===== the words of the tables, by list and place ===== -/
def sTk (i : Nat) : List Jvm.Cond := match i with
  | 0 => k2_sels lw_privs
  | 1 => tables_1_1.filter goodWord
  | 2 => tables_1_2.filter goodWord
  | 3 => tables_1_3.filter goodWord
  | 4 => tables_1_4.filter goodWord
  | 5 => tables_1_5.filter goodWord
  | 6 => tables_1_6.filter goodWord
  | 7 => tables_1_7.filter goodWord
  | _ => []
def sTB : List Jvm.Cond := sTk 0 ++ (sTk 1 ++ (sTk 2 ++ (sTk 3 ++ (sTk 4 ++ (sTk 5 ++ (sTk 6 ++ sTk 7))))))
def sW (p : Nat) : Option Jvm.Cond := (sTk (p / 1000))[p % 1000]?
theorem sTk_in (i : Nat) (w : Jvm.Cond) (hw : w ∈ sTk i) : w ∈ sTB := by
  unfold sTB
  simp only [List.mem_append]
  match i, hw with
  | 0, hw => exact Or.inl hw
  | 1, hw => exact Or.inr (Or.inl hw)
  | 2, hw => exact Or.inr (Or.inr (Or.inl hw))
  | 3, hw => exact Or.inr (Or.inr (Or.inr (Or.inl hw)))
  | 4, hw => exact Or.inr (Or.inr (Or.inr (Or.inr (Or.inl hw))))
  | 5, hw => exact Or.inr (Or.inr (Or.inr (Or.inr (Or.inr (Or.inl hw)))))
  | 6, hw => exact Or.inr (Or.inr (Or.inr (Or.inr (Or.inr (Or.inr (Or.inl hw))))))
  | 7, hw => exact Or.inr (Or.inr (Or.inr (Or.inr (Or.inr (Or.inr (Or.inr hw))))))
  | n + 8, hw => cases hw
theorem sW_in {p : Nat} {w : Jvm.Cond} (h : sW p = some w) : w ∈ sTB := sTk_in _ w (List.mem_of_getElem? h)
theorem sTB_cases {P : Jvm.Cond → Prop} (h0 : ∀ w ∈ k2_sels lw_privs, P w) (h1 : ∀ w ∈ tables_1, goodWord w = true → P w) : ∀ w ∈ sTB, P w := by
  intro w hw
  have hh : w ∈ k2_sels lw_privs ∨ (w ∈ tables_1 ∧ goodWord w = true) := by
    unfold sTB at hw
    simp only [List.mem_append] at hw
    unfold tables_1
    simp only [List.mem_append]
    rcases hw with hw | hw | hw | hw | hw | hw | hw | hw
    · exact Or.inl hw
    all_goals
      have h2 := List.mem_filter.mp hw
      exact Or.inr ⟨by simp [h2.1], h2.2⟩
  rcases hh with h | h
  · exact h0 w h
  · exact h1 w h.1 h.2
theorem sTB_good : ∀ w ∈ sTB, goodWord w = true := sTB_cases (fun w hw => by
  obtain ⟨q, -, rfl⟩ := List.mem_map.mp hw
  rfl) (fun w _ h => h)
theorem sTB_lw : ∀ w ∈ sTB, w ∈ lw_tbl := sTB_cases (fun w hw => List.mem_append_left _ hw) (fun w hw _ => List.mem_append_right _ hw)
theorem sTB_in {ws : List Jvm.Cond} (h : ∀ w ∈ ws, w ∈ sTB) : GoodIn sTB ws := fun w hw => ⟨h w hw, good_of_word (sTB_good w (h w hw))⟩
/-! ===== what the places stand for ===== -/
def sAd (base : Nat) (b : Nat → Nat) (k : Nat) : Nat := if 1000000 ≤ k then b k else base + k
def rV (σ : Nat → Nat) : Value → Value
  | .ref k => .ref (σ k)
  | v => v
def rA (σ : Nat → Nat) (a : vp_A) : vp_A := match a with
  | (n, .inr (.inr (.inr (.inr f)))) => (n, .inr (.inr (.inr (.inr (fun j => (f j).map σ)))))
  | (n, x) => (n, x)
def rC (σ : Nat → Nat) (dA : Nat → ClassId) (c : va_E) : va_E := match c with
  | .inl (t, a) => .inl (dA t, rA σ a)
  | .inr (ci, fs) => .inr (ci, fs.map (rV σ))
def rW (σ : Nat → Nat) (dA : Nat → ClassId) (h : sHp) : va_W := h.mapIdx (fun k c => (σ k, rC σ dA c))
abbrev rS (σ : Nat → Nat) (st : List Value) : List Value := st.map (rV σ)
theorem rV_cat (σ : Nat → Nat) (v : Value) : (rV σ v).category = v.category := by cases v <;> rfl
theorem rV_rf (σ : Nat → Nat) (r : Option Nat) : rV σ (va_rf r) = va_rf (r.map σ) := by cases r <;> rfl
theorem rW_get (σ : Nat → Nat) (dA : Nat → ClassId) (h : sHp) (k : Nat) : (rW σ dA h)[k]? = (h[k]?).map (fun c => (σ k, rC σ dA c)) := by
  unfold rW
  rw [List.getElem?_mapIdx]
theorem rW_at {σ : Nat → Nat} {dA : Nat → ClassId} {h : sHp} {k : Nat} {c : va_E} (hk : h[k]? = some c) : (rW σ dA h)[k]? = some (σ k, rC σ dA c) := by rw [rW_get, hk]; rfl
theorem rW_len (σ : Nat → Nat) (dA : Nat → ClassId) (h : sHp) : (rW σ dA h).length = h.length := by unfold rW; rw [List.length_mapIdx]
theorem rW_set (σ : Nat → Nat) (dA : Nat → ClassId) (h : sHp) (k : Nat) (c : va_E) : (rW σ dA h).set k (σ k, rC σ dA c) = rW σ dA (h.set k c) := by
  apply List.ext_getElem?
  intro i
  rw [rW_get, List.getElem?_set, List.getElem?_set, rW_len]
  by_cases e : k = i
  · subst e
    by_cases hl : k < h.length
    · simp [hl]
    · simp [hl]
  · simp [e, rW_get]
theorem rW_app (σ : Nat → Nat) (dA : Nat → ClassId) (h : sHp) (c : va_E) : rW σ dA (h ++ [c]) = rW σ dA h ++ [(σ h.length, rC σ dA c)] := by
  unfold rW
  rw [List.mapIdx_concat]
theorem rW_apart {base : Nat} {b : Nat → Nat} {dA : Nat → ClassId} {h : sHp} (hl : h.length ≤ 1000000) : va_D (fun q => base ≤ q) (rW (sAd base b) dA h) := by
  have key : ∀ (i : Nat) (p : Nat × va_E), (rW (sAd base b) dA h)[i]? = some p → p.1 = base + i := by
    intro i p hi
    rw [rW_get] at hi
    cases hc : h[i]? with
    | none => rw [hc] at hi; cases hi
    | some c =>
      rw [hc] at hi
      cases hi
      have hlt := (List.getElem?_eq_some_iff.mp hc).1
      show sAd base b i = base + i
      unfold sAd
      rw [if_neg (by omega)]
  refine ⟨fun i j p q hi hj hpq => ?_, fun k q hk => ?_⟩
  · have h1 := key i p hi
    have h2 := key j q hj
    omega
  · have h1 := key k q hk
    show base ≤ q.1
    omega
theorem sAd_in {base : Nat} {b : Nat → Nat} {k : Nat} (h : k < 1000000) : sAd base b k = base + k := by unfold sAd; rw [if_neg (by omega)]
/-- sizes -/
def sSz (c : va_E) : Nat := match c with
  | .inl (_, a) => a.1
  | .inr (_, fs) => fs.length
def sSl : sHp → Nat
  | [] => 0
  | c :: t => sSz c + sSl t
theorem sSl_app (h g : sHp) : sSl (h ++ g) = sSl h + sSl g := by
  induction h with
  | nil => simp [sSl]
  | cons c t ih => rw [List.cons_append, sSl, ih, sSl]; omega
theorem sSl_set {h : sHp} {k : Nat} {c c0 : va_E} (hk : h[k]? = some c0) (hs : sSz c = sSz c0) : sSl (h.set k c) = sSl h := by
  induction h generalizing k with
  | nil => cases hk
  | cons a t ih =>
    cases k with
    | zero =>
      rw [List.getElem?_cons_zero] at hk
      have e := Option.some.inj hk
      show sSz c + sSl t = sSz a + sSl t
      rw [hs, e]
    | succ k =>
      rw [List.getElem?_cons_succ] at hk
      show sSz a + sSl (t.set k c) = sSz a + sSl t
      rw [ih hk]
/-! ===== locals ===== -/
def sEnt (σ : Nat → Nat) (L : sLo) : List (Nat × Value) := (List.range L.length).filterMap (fun i => match L[i]? with
  | some (some v) => some (i, rV σ v)
  | _ => none)
theorem sEnt_mem {σ : Nat → Nat} {L : sLo} {q : Nat × Value} : q ∈ sEnt σ L ↔ ∃ v, L[q.1]? = some (some v) ∧ q.2 = rV σ v := by
  unfold sEnt
  rw [List.mem_filterMap]
  constructor
  · rintro ⟨i, hi, h⟩
    cases hL : L[i]? with
    | none => rw [hL] at h; cases h
    | some o =>
      cases o with
      | none => rw [hL] at h; cases h
      | some v =>
        rw [hL] at h
        cases h
        exact ⟨v, hL, rfl⟩
  · rintro ⟨v, h1, h2⟩
    refine ⟨q.1, List.mem_range.mpr (List.getElem?_eq_some_iff.mp h1).1, ?_⟩
    rw [h1]
    show some (q.1, rV σ v) = some q
    rw [← h2]
theorem lv_mono {ls : Array Slot} {n : Nat} {l l' : List (Nat × Value)} (h : lv_has ls n l) (hs : ∀ q ∈ l', q ∈ l) : lv_has ls n l' := ⟨h.1, h.2.1, fun q hq => h.2.2 q (hs q hq)⟩
theorem sEnt_at {σ : Nat → Nat} {L : sLo} {ls : Array Slot} {n i : Nat} {v : Value} (h : lv_has ls n (sEnt σ L)) (hv : L[i]? = some (some v)) : ls[i]? = some (.val (rV σ v)) := h.2.2 (i, rV σ v) (sEnt_mem.mpr ⟨v, hv, rfl⟩)
theorem sKill_get (L : sLo) (i j : Nat) : (sKill L i)[j]? = if j + 1 = i ∧ sIsL L[j]? = true then some none else L[j]? := by
  unfold sKill
  cases i with
  | zero => simp
  | succ k =>
    show (if sIsL L[k]? = true then L.set k none else L)[j]? = _
    by_cases e : j = k
    · subst e
      by_cases hL : sIsL L[j]? = true
      · rw [if_pos hL, if_pos ⟨rfl, hL⟩, List.getElem?_set_self]
        cases hj : L[j]? with
        | none => rw [hj] at hL; cases hL
        | some o => exact (List.getElem?_eq_some_iff.mp hj).1
      · rw [if_neg hL, if_neg (fun q => hL q.2)]
    · rw [if_neg (show ¬ (j + 1 = k + 1 ∧ _) from fun q => e (by omega))]
      split
      · rw [List.getElem?_set_ne (fun q => e q.symm)]
      · rfl
theorem sKill_len (L : sLo) (i : Nat) : (sKill L i).length = L.length := by
  unfold sKill
  cases i with
  | zero => rfl
  | succ k => show (if _ then L.set k none else L).length = _; split <;> simp
theorem sPut_len (L : sLo) (i : Nat) (v : Value) : (sPut L i v).length = L.length := by unfold sPut; rw [List.length_set, sKill_len]
theorem sPutL_len (L : sLo) (i : Nat) (v : Value) : (sPutL L i v).length = L.length := by unfold sPutL; rw [List.length_set, sPut_len]
theorem sIsL_cat {o : Option (Option Value)} {v : Value} (σ : Nat → Nat) (h : o = some (some v)) (hL : ¬ sIsL o = true) (hd : ∀ x, v ≠ .double x) : ¬ (rV σ v).category = 2 := by
  subst h
  cases v <;> first | (exact fun q => hL rfl) | (exact fun q => hd _ rfl) | (intro q; cases q)
def sNoD (L : sLo) : Prop := ∀ (i : Nat) (x : UInt64), L[i]? ≠ some (some (.double x))
theorem sNoD_put {L : sLo} (h : sNoD L) (i : Nat) {v : Value} (hv : ∀ x, v ≠ .double x) : sNoD (sPut L i v) := by
  intro j x hj
  unfold sPut at hj
  rw [List.getElem?_set] at hj
  split at hj
  · split at hj
    · cases hj; exact hv _ rfl
    · cases hj
  · rw [sKill_get] at hj
    split at hj
    · cases hj
    · exact h j x hj
theorem sNoD_putL {L : sLo} (h : sNoD L) (i : Nat) {v : Value} (hv : ∀ x, v ≠ .double x) : sNoD (sPutL L i v) := by
  intro j x hj
  unfold sPutL at hj
  rw [List.getElem?_set] at hj
  split at hj
  · split at hj
    · cases hj
    · cases hj
  · exact sNoD_put h i hv j x hj
theorem sPut_has {σ : Nat → Nat} {L : sLo} {ls : Array Slot} {n i : Nat} {v : Value} (hd : sNoD L) (h : lv_has ls n ((i, rV σ v) :: (sEnt σ L).filter (fun q => !(q.1 == i) && !(q.1 + 1 == i && q.2.category == 2)))) : lv_has ls n (sEnt σ (sPut L i v)) := by
  refine lv_mono h fun q hq => ?_
  obtain ⟨w, h1, h2⟩ := sEnt_mem.mp hq
  unfold sPut at h1
  rw [List.getElem?_set] at h1
  split at h1
  · rename_i e
    split at h1
    · cases h1
      have : q = (i, rV σ v) := by rw [← h2, e]
      rw [this]
      exact List.mem_cons_self
    · cases h1
  · rename_i e
    rw [sKill_get] at h1
    split at h1
    · cases h1
    · rename_i hk
      refine List.mem_cons_of_mem _ (List.mem_filter.mpr ⟨sEnt_mem.mpr ⟨w, h1, h2⟩, ?_⟩)
      have e1 : (q.1 == i) = false := by rw [beq_eq_false_iff_ne]; exact fun z => e z.symm
      rw [e1]
      by_cases e2 : q.1 + 1 = i
      · have hL : ¬ sIsL L[q.1]? = true := fun z => hk ⟨e2, z⟩
        have hc := sIsL_cat σ h1 hL (fun x z => hd q.1 x (by rw [h1, z]))
        rw [← h2] at hc
        have e3 : (q.2.category == 2) = false := by rw [beq_eq_false_iff_ne]; exact hc
        rw [e3]
        simp
      · have e3 : (q.1 + 1 == i) = false := by rw [beq_eq_false_iff_ne]; exact e2
        rw [e3]
        simp
theorem sPutL_has {σ : Nat → Nat} {L : sLo} {ls : Array Slot} {n i : Nat} {v : Value} (hd : sNoD L) (h : lv_has ls n ((i, rV σ v) :: (sEnt σ L).filter (fun q => !(q.1 == i) && (!(q.1 == i + 1) && !(q.1 + 1 == i && q.2.category == 2))))) : lv_has ls n (sEnt σ (sPutL L i v)) := by
  refine lv_mono h fun q hq => ?_
  obtain ⟨w, h1, h2⟩ := sEnt_mem.mp hq
  unfold sPutL at h1
  rw [List.getElem?_set] at h1
  split at h1
  · split at h1
    · cases h1
    · cases h1
  · rename_i e0
    unfold sPut at h1
    rw [List.getElem?_set] at h1
    split at h1
    · rename_i e
      split at h1
      · cases h1
        have : q = (i, rV σ v) := by rw [← h2, e]
        rw [this]
        exact List.mem_cons_self
      · cases h1
    · rename_i e
      rw [sKill_get] at h1
      split at h1
      · cases h1
      · rename_i hk
        refine List.mem_cons_of_mem _ (List.mem_filter.mpr ⟨sEnt_mem.mpr ⟨w, h1, h2⟩, ?_⟩)
        have e1 : (q.1 == i) = false := by rw [beq_eq_false_iff_ne]; exact fun z => e z.symm
        have e4 : (q.1 == i + 1) = false := by rw [beq_eq_false_iff_ne]; exact fun z => e0 z.symm
        rw [e1, e4]
        by_cases e2 : q.1 + 1 = i
        · have hL : ¬ sIsL L[q.1]? = true := fun z => hk ⟨e2, z⟩
          have hc := sIsL_cat σ h1 hL (fun x z => hd q.1 x (by rw [h1, z]))
          rw [← h2] at hc
          have e3 : (q.2.category == 2) = false := by rw [beq_eq_false_iff_ne]; exact hc
          rw [e3]
          simp
        · have e3 : (q.1 + 1 == i) = false := by rw [beq_eq_false_iff_ne]; exact e2
          rw [e3]
          simp
