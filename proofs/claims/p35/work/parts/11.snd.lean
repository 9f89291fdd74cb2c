/-! ===== sizes only grow ===== -/
def sLe (h h' : sHp) : Prop := h.length ≤ h'.length ∧ sSl h ≤ sSl h'
theorem sLe_rf (h : sHp) : sLe h h := ⟨Nat.le_refl _, Nat.le_refl _⟩
theorem sLe.tr {a b c : sHp} (h1 : sLe a b) (h2 : sLe b c) : sLe a c := ⟨Nat.le_trans h1.1 h2.1, Nat.le_trans h1.2 h2.2⟩
theorem sLe_set {h : sHp} {k : Nat} {c c0 : va_E} (hk : h[k]? = some c0) (hs : sSz c = sSz c0) : sLe h (h.set k c) := ⟨by rw [List.length_set]; exact Nat.le_refl _, by rw [sSl_set hk hs]; exact Nat.le_refl _⟩
theorem sLe_app (h g : sHp) : sLe h (h ++ g) := ⟨by rw [List.length_append]; omega, by rw [sSl_app]; omega⟩
theorem sLe_get {k : Nat} {st st' : List Value} {h h' : sHp} (hh : sGetF k st h = some (st', h')) : sLe h h' := by
  unfold sGetF at hh
  (repeat' split at hh) <;> first | (cases hh; done) | (cases hh; exact sLe_rf _)
theorem sLe_put {k : Nat} {st st' : List Value} {h h' : sHp} (hh : sPutF k st h = some (st', h')) : sLe h h' := by
  unfold sPutF at hh
  split at hh
  · split at hh
    · rename_i ci fs ha
      split at hh
      · cases hh
        exact sLe_set ha (by show (fs.set _ _).length = fs.length; rw [List.length_set])
      · cases hh
    · cases hh
  · cases hh
theorem sLe_ldI {k : Nat} {st st' : List Value} {h h' : sHp} (hh : sLdAI k st h = some (st', h')) : sLe h h' := by
  unfold sLdAI at hh
  (repeat' split at hh) <;> first | (cases hh; done) | (cases hh; exact sLe_rf _)
theorem sLe_ldL {st st' : List Value} {h h' : sHp} (hh : sLdAL st h = some (st', h')) : sLe h h' := by
  unfold sLdAL at hh
  (repeat' split at hh) <;> first | (cases hh; done) | (cases hh; exact sLe_rf _)
theorem sLe_ldA {st st' : List Value} {h h' : sHp} (hh : sLdAA st h = some (st', h')) : sLe h h' := by
  unfold sLdAA at hh
  (repeat' split at hh) <;> first | (cases hh; done) | (cases hh; exact sLe_rf _)
theorem sLe_al {st st' : List Value} {h h' : sHp} (hh : sALen st h = some (st', h')) : sLe h h' := by
  unfold sALen at hh
  (repeat' split at hh) <;> first | (cases hh; done) | (cases hh; exact sLe_rf _)
theorem sLe_stI {st st' : List Value} {h h' : sHp} (hh : sStAI st h = some (st', h')) : sLe h h' := by
  unfold sStAI at hh
  split at hh
  · split at hh
    · rename_i ha
      split at hh
      · cases hh; exact sLe_set ha rfl
      · cases hh
    · cases hh
  · cases hh
theorem sLe_stZ {st st' : List Value} {h h' : sHp} (hh : sStAZ st h = some (st', h')) : sLe h h' := by
  unfold sStAZ at hh
  split at hh
  · split at hh
    · rename_i ha
      split at hh
      · cases hh; exact sLe_set ha rfl
      · cases hh
    · cases hh
  · cases hh
theorem sLe_stL {st st' : List Value} {h h' : sHp} (hh : sStAL st h = some (st', h')) : sLe h h' := by
  unfold sStAL at hh
  split at hh
  · split at hh
    · rename_i ha
      split at hh
      · cases hh; exact sLe_set ha rfl
      · cases hh
    · cases hh
  · cases hh
theorem sLe_stA {st st' : List Value} {h h' : sHp} (hh : sStAA st h = some (st', h')) : sLe h h' := by
  unfold sStAA at hh
  split at hh
  · split at hh
    · rename_i ha
      split at hh
      · cases hh; exact sLe_set ha rfl
      · cases hh
    · cases hh
  · split at hh
    · rename_i ha
      split at hh
      · cases hh; exact sLe_set ha rfl
      · cases hh
    · cases hh
  · cases hh
theorem sLe_new {k : Nat} {st st' : List Value} {h h' : sHp} (hh : sNew k st h = some (st', h')) : sLe h h' := by
  unfold sNew at hh
  (repeat' split at hh) <;> first | (cases hh; done) | (cases hh; exact sLe_app _ _)
theorem sLe_newA {k : ArrayType} {st st' : List Value} {h h' : sHp} (hh : sNewA k st h = some (st', h')) : sLe h h' := by
  unfold sNewA at hh
  (repeat' split at hh) <;> first | (cases hh; done) | (cases hh; exact sLe_app _ _)
theorem sLe_newQ {k : Nat} {st st' : List Value} {h h' : sHp} (hh : sNewQ k st h = some (st', h')) : sLe h h' := by
  unfold sNewQ at hh
  (repeat' split at hh) <;> first | (cases hh; done) | (cases hh; exact sLe_app _ _)
theorem sLe_newM {st st' : List Value} {h h' : sHp} (hh : sNewM st h = some (st', h')) : sLe h h' := by
  unfold sNewM at hh
  (repeat' split at hh) <;> first | (cases hh; done) | (cases hh; exact sLe_app _ _)
theorem sLe_cpy {st st' : List Value} {h h' : sHp} (hh : sCpy st h = some (st', h')) : sLe h h' := by
  unfold sCpy at hh
  split at hh
  · split at hh
    · rename_i ha
      split at hh
      · cases hh; exact sLe_set ha rfl
      · cases hh
    · cases hh
  · cases hh
theorem sStC_eq {d k : Nat} {as : List Value} {h h' : sHp} {r : Option Value} (hr : sStC d k as h = some (r, h')) : h' = h := by
  unfold sStC at hr
  split at hr
  · split at hr
    · cases hr; rfl
    · cases hr
  · split at hr
    · cases hr; rfl
    · cases hr
  · cases hr
theorem sHeap_le {ins : Instr} {st st' : List Value} {h h' : sHp} (hh : sHeap ins st h = some (st', h')) : sLe h h' := by
  unfold sHeap at hh
  split at hh
  · exact sLe_get hh
  · exact sLe_put hh
  · exact sLe_ldI hh
  · exact sLe_ldI hh
  · exact sLe_ldL hh
  · exact sLe_ldA hh
  · exact sLe_stI hh
  · exact sLe_stZ hh
  · exact sLe_stL hh
  · exact sLe_stA hh
  · exact sLe_al hh
  · exact sLe_new hh
  · exact sLe_newA hh
  · exact sLe_newQ hh
  · exact sLe_newM hh
  · cases hh; exact sLe_rf _
  · split at hh
    · cases hh; exact sLe_rf _
    · split at hh
      · cases hh; exact sLe_rf _
      · cases hh
  · cases hh; exact sLe_rf _
  · split at hh
    · exact sLe_cpy hh
    · cases hh
  · cases hh
theorem sRun_le {X : sX} {F : Nat → Option Instr} {rt : Option FieldType} {cal : Instr → List Value → sHp → Option (Nat × List Value × List Value)} {call : Nat → List Value → sHp → sOr} (hc : ∀ k as h r h', call k as h = some (r, h') → sLe h h') :
    ∀ (n pc : Nat) (L : sLo) (st : List Value) (h : sHp) (v : Option Value) (hf : sHp), sRun X F rt cal call n pc L st h = some (v, hf) → sLe h hf := by
  intro n
  induction n with
  | zero => intro pc L st h v hf hr; cases hr
  | succ n ih =>
    intro pc L st h v hf hr
    rw [sRun] at hr
    cases hF : F pc with
    | none => rw [hF] at hr; cases hr
    | some ins =>
      rw [hF] at hr
      dsimp only at hr
      split at hr
      · obtain ⟨st1, h1, h2⟩ := Option.bind_eq_some_iff.mp hr
        exact ih _ _ _ _ _ _ h2
      · obtain ⟨q, h1, h2⟩ := Option.bind_eq_some_iff.mp hr
        exact ih _ _ _ _ _ _ h2
      · split at hr
        · exact ih _ _ _ _ _ _ hr
        · obtain ⟨q, h1, h2⟩ := Option.bind_eq_some_iff.mp hr
          exact (sHeap_le h1).tr (ih _ _ _ _ _ _ h2)
      · obtain ⟨q, h1, h2⟩ := Option.bind_eq_some_iff.mp hr
        exact ih _ _ _ _ _ _ h2
      · obtain ⟨q, h1, h2⟩ := Option.map_eq_some_iff.mp hr
        cases h2
        exact sLe_rf _
      · obtain ⟨q, h1, h2⟩ := Option.bind_eq_some_iff.mp hr
        split at h2
        · obtain ⟨z, h3, h4⟩ := Option.bind_eq_some_iff.mp h2
          exact (hc _ _ _ _ _ h3).tr (ih _ _ _ _ _ _ h4)
        · cases h2
      · split at hr
        · obtain ⟨q, h1, h2⟩ := Option.bind_eq_some_iff.mp hr
          exact ih _ _ _ _ _ _ h2
        · cases hr
theorem sCall_le : ∀ (d n k : Nat) (as : List Value) (h : sHp) (r : Option Value) (h' : sHp), sCall d n k as h = some (r, h') → sLe h h' := by
  intro d
  induction d with
  | zero => intro n k as h r h' hr; cases hr
  | succ d ih =>
    intro n k as h r h' hr
    rw [sCall] at hr
    split at hr
    · rw [sStC_eq hr]
      exact sLe_rf h
    obtain ⟨q, h1, h2⟩ := Option.bind_eq_some_iff.mp hr
    obtain ⟨L, h3, h4⟩ := Option.bind_eq_some_iff.mp h2
    exact sRun_le (fun k as h r h' => ih n k as h r h') _ _ _ _ _ _ _ h4
/-! ===== the locals with which a method begins ===== -/
theorem sIniA_len (σ : Nat → Nat) : ∀ as : List Value, (lg_sl (as.map (rV σ))).length = (sIniA as).length
  | [] => rfl
  | v :: vs => by
    have ih := sIniA_len σ vs
    unfold lg_sl at ih ⊢
    rw [List.map_cons, List.flatMap_cons, List.length_append, ih, sIniA, rV_cat]
    split
    · simp; omega
    · simp; omega
theorem sIniA_at (σ : Nat → Nat) : ∀ (as : List Value) (i j : Nat) (v : Value), (sIniA as)[j]? = some (some v) → (i + j, rV σ v) ∈ lv_args i (as.map (rV σ))
  | [], i, j, v, h => by cases h
  | w :: vs, i, j, v, h => by
    rw [sIniA] at h
    rw [List.map_cons, lv_args, rV_cat]
    by_cases hc : w.category = 2
    · rw [if_pos hc] at h ⊢
      match j, h with
      | 0, h => rw [List.getElem?_cons_zero] at h; cases h; exact List.mem_cons_self
      | 1, h => rw [List.getElem?_cons_succ, List.getElem?_cons_zero] at h; cases h
      | j + 2, h =>
        rw [List.getElem?_cons_succ, List.getElem?_cons_succ] at h
        have := sIniA_at σ vs (i + 2) j v h
        rw [show i + (j + 2) = i + 2 + j by omega]
        exact List.mem_cons_of_mem _ this
    · rw [if_neg hc] at h ⊢
      match j, h with
      | 0, h => rw [List.getElem?_cons_zero] at h; cases h; exact List.mem_cons_self
      | j + 1, h =>
        rw [List.getElem?_cons_succ] at h
        have := sIniA_at σ vs (i + 1) j v h
        rw [show i + (j + 1) = i + 1 + j by omega]
        exact List.mem_cons_of_mem _ this
theorem sIniA_nd : ∀ (as : List Value), as.all sNd = true → ∀ (j : Nat) (x : UInt64), (sIniA as)[j]? ≠ some (some (.double x))
  | [], _, j, x => by intro h; cases h
  | w :: vs, ha, j, x => by
    rw [List.all_cons, Bool.and_eq_true] at ha
    have ih := sIniA_nd vs ha.2
    rw [sIniA]
    split
    · match j with
      | 0 => rw [List.getElem?_cons_zero]; intro h; cases h; exact absurd (show sNd (.double x) = true from ha.1) (fun q => by cases q)
      | 1 => rw [List.getElem?_cons_succ, List.getElem?_cons_zero]; intro h; cases h
      | j + 2 => rw [List.getElem?_cons_succ, List.getElem?_cons_succ]; exact ih j x
    · match j with
      | 0 => rw [List.getElem?_cons_zero]; intro h; cases h; exact absurd (show sNd (.double x) = true from ha.1) (fun q => by cases q)
      | j + 1 => rw [List.getElem?_cons_succ]; exact ih j x
theorem s_ini {σ : Nat → Nat} {nL : Nat} {as : List Value} {L : sLo} (h : sIni nL as = some L) : sLs σ nL L ((lg_sl (as.map (rV σ)) ++ List.replicate (nL - (lg_sl (as.map (rV σ))).length) Slot.unset).toArray) := by
  unfold sIni at h
  split at h
  · rename_i hc
    cases h
    obtain ⟨h1, h2⟩ := hc
    refine ⟨by rw [List.length_append, List.length_replicate]; omega, fun i x hi => ?_, lv_mono (lv_entry _ (by rw [sIniA_len]; exact h2)) fun q hq => ?_⟩
    · by_cases hl : i < (sIniA as).length
      · rw [List.getElem?_append_left hl] at hi
        exact sIniA_nd as h1 i x hi
      · rw [List.getElem?_append_right (by omega)] at hi
        have := List.eq_of_mem_replicate (List.mem_of_getElem? hi)
        cases this
    · obtain ⟨v, g1, g2⟩ := sEnt_mem.mp hq
      by_cases hl : q.1 < (sIniA as).length
      · rw [List.getElem?_append_left hl] at g1
        have g3 := sIniA_at σ as 0 q.1 v g1
        rw [Nat.zero_add] at g3
        have : q = (q.1, rV σ v) := by rw [← g2]
        rw [this]
        exact g3
      · rw [List.getElem?_append_right (by omega)] at g1
        have := List.eq_of_mem_replicate (List.mem_of_getElem? g1)
        cases this
  · cases h
/-! ===== what is carried beside the tables ===== -/
theorem sAO_use {s : State} {t : FieldType} {args : Array Value} (h : (Jvm.Cond.arrayOver (.array t)).before args s = true) : ∃ (comp c : ClassId) (k : Class), s.vm.findClass (FieldType.array t).toString = some comp ∧ (s.vm.classes.findIdx? fun (x : Class) => match x.kind with | .array component _ => component == comp | _ => false) = some c ∧ s.vm.classes[c]? = some k ∧ k.kind = .array comp (.array t) ∧ s.vm.findClass ("[" ++ (FieldType.array t).toString) = some c := by
  unfold Jvm.Cond.before at h
  simp only [Jvm.Cond.holds, Jvm.Cond.value, beq_iff_eq] at h
  cases hc : s.vm.findClass (FieldType.array t).toString with
  | none => simp [hc] at h
  | some comp =>
    simp only [hc, Option.bind_some, Option.bind_eq_some_iff, Option.map_eq_some_iff] at h
    obtain ⟨c, hi, k, hk, hb⟩ := h
    obtain ⟨hlt, hp, -⟩ := Array.findIdx?_eq_some_iff_getElem.mp hi
    have hkk : s.vm.classes[c] = k := (Array.getElem?_eq_some_iff.mp hk).2
    rw [hkk] at hp
    cases hkind : k.kind with
    | array component ty =>
      rw [hkind] at hb hp
      simp at hb hp
      exact ⟨comp, c, k, rfl, hi, hk, by rw [hkind, hp, hb.1], hb.2⟩
    | _ => rw [hkind] at hb; simp at hb
theorem sAO_moved {t : FieldType} {args args' : Array Value} {u U : State} (hvm : u.vm.Alike U.vm) (h : (Jvm.Cond.arrayOver (.array t)).before args u = true) : (Jvm.Cond.arrayOver (.array t)).before args' U = true := by
  obtain ⟨comp, c, k, h1, h2, h3, h4, h5⟩ := sAO_use h
  obtain ⟨k', hk', he⟩ := hvm.2.2 _ _ h3
  have hi : (U.vm.classes.findIdx? fun (x : Class) => match x.kind with | .array component _ => component == comp | _ => false) = some c := by
    refine (va_idx_bare U.vm comp).symm.trans ?_
    first | rw [hvm.bare_eq] | rw [← hvm.bare_eq]
    exact (va_idx_bare u.vm comp).trans h2
  have hkind : k'.kind = .array comp (.array t) := by rw [he]; exact h4
  have f1 : U.vm.findClass (FieldType.array t).toString = some comp := by rw [hvm.findClass]; exact h1
  have f2 : U.vm.findClass ("[" ++ (FieldType.array t).toString) = some c := by rw [hvm.findClass]; exact h5
  unfold Jvm.Cond.before Jvm.Cond.holds
  simp only [Jvm.Cond.value]
  rw [f1, Option.bind_some]
  refine (congrArg (fun o : Option Nat => (o.bind (fun c => (U.vm.classes[c]?).map fun (k : Class) => match k.kind with | .array _ ty => decide (ty = FieldType.array t) && decide (U.vm.findClass ("[" ++ (FieldType.array t).toString) = some c) | _ => false) == some true)) hi).trans ?_
  simp [hk', hkind, f2]
theorem sNw_warm {s U : State} (hW : s.WarmedH U.vm) (h : sNw s) : sNw U := by
  intro w hw
  have hs := h w hw
  simp only [sNwl, List.mem_cons, List.not_mem_nil, or_false] at hw
  rcases hw with rfl | rfl | rfl | rfl | rfl | rfl | rfl | rfl | rfl | rfl | rfl
  · exact va_AO.moved hW.alike hs
  · exact va_AO.moved hW.alike hs
  · exact sAO_moved hW.alike hs
  all_goals first | exact va_Nw.warmC hW hs | exact va_Nw.warmM hW hs
theorem sNw_same {u U : State} (e : u.vm = U.vm) (h : sNw u) : sNw U := by
  intro w hw
  have hs := h w hw
  have ha : u.vm.Alike U.vm := by rw [e]; exact Vm.Alike.refl _
  simp only [sNwl, List.mem_cons, List.not_mem_nil, or_false] at hw
  rcases hw with rfl | rfl | rfl | rfl | rfl | rfl | rfl | rfl | rfl | rfl | rfl
  · exact va_AO.moved ha hs
  · exact va_AO.moved ha hs
  · exact sAO_moved ha hs
  all_goals exact va_Nw.same rfl e hs
