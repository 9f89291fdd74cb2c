section
/-! ===== sizes only grow ===== -/
def sLe (h h' : sHp) : Prop := h.length ≤ h'.length ∧ sSl h ≤ sSl h'
theorem sLe_rf (h : sHp) : sLe h h := ⟨Nat.le_refl _, Nat.le_refl _⟩
theorem sLe.tr {a b c : sHp} (h1 : sLe a b) (h2 : sLe b c) : sLe a c := ⟨Nat.le_trans h1.1 h2.1, Nat.le_trans h1.2 h2.2⟩
theorem sLe_set {h : sHp} {k : Nat} {c c0 : va_E} (hk : h[k]? = some c0) (hs : sSz c = sSz c0) : sLe h (h.set k c) := ⟨by rw [List.length_set]; exact Nat.le_refl _, by rw [sSl_set hk hs]; exact Nat.le_refl _⟩
theorem sLe_app (h g : sHp) : sLe h (h ++ g) := ⟨by rw [List.length_append]; omega, by rw [sSl_app]; omega⟩
theorem sLe_get {k : Nat} {st st' : List Value} {h h' : sHp} (hh : sGetF k st h = some (st', h')) : sLe h h' := by
  unfold sGetF at hh
  (repeat' split at hh) <;> first | (cases hh; done) | (cases hh; exact sLe_rf _)
theorem sLe_put {k : Nat} {st st' : List Value} {h h' : sHp} (hh : sPutF k st h = some (st', h')) : sLe h h' := by
  unfold sPutF at hh
  split at hh
  · split at hh
    · rename_i ci fs ha
      split at hh
      · cases hh
        exact sLe_set ha (by show (fs.set _ _).length = fs.length; rw [List.length_set])
      · cases hh
    · cases hh
  · cases hh
theorem sLe_ldI {k : Nat} {st st' : List Value} {h h' : sHp} (hh : sLdAI k st h = some (st', h')) : sLe h h' := by
  unfold sLdAI at hh
  (repeat' split at hh) <;> first | (cases hh; done) | (cases hh; exact sLe_rf _)
theorem sLe_ldL {st st' : List Value} {h h' : sHp} (hh : sLdAL st h = some (st', h')) : sLe h h' := by
  unfold sLdAL at hh
  (repeat' split at hh) <;> first | (cases hh; done) | (cases hh; exact sLe_rf _)
theorem sLe_ldA {st st' : List Value} {h h' : sHp} (hh : sLdAA st h = some (st', h')) : sLe h h' := by
  unfold sLdAA at hh
  (repeat' split at hh) <;> first | (cases hh; done) | (cases hh; exact sLe_rf _)
theorem sLe_al {st st' : List Value} {h h' : sHp} (hh : sALen st h = some (st', h')) : sLe h h' := by
  unfold sALen at hh
  (repeat' split at hh) <;> first | (cases hh; done) | (cases hh; exact sLe_rf _)
theorem sLe_stI {st st' : List Value} {h h' : sHp} (hh : sStAI st h = some (st', h')) : sLe h h' := by
  unfold sStAI at hh
  split at hh
  · split at hh
    · rename_i ha
      split at hh
      · cases hh; exact sLe_set ha rfl
      · cases hh
    · cases hh
  · cases hh
theorem sLe_stZ {st st' : List Value} {h h' : sHp} (hh : sStAZ st h = some (st', h')) : sLe h h' := by
  unfold sStAZ at hh
  split at hh
  · split at hh
    · rename_i ha
      split at hh
      · cases hh; exact sLe_set ha rfl
      · cases hh
    · cases hh
  · cases hh
theorem sLe_stL {st st' : List Value} {h h' : sHp} (hh : sStAL st h = some (st', h')) : sLe h h' := by
  unfold sStAL at hh
  split at hh
  · split at hh
    · rename_i ha
      split at hh
      · cases hh; exact sLe_set ha rfl
      · cases hh
    · cases hh
  · cases hh
theorem sLe_stA {st st' : List Value} {h h' : sHp} (hh : sStAA st h = some (st', h')) : sLe h h' := by
  unfold sStAA at hh
  split at hh
  · split at hh
    · rename_i ha
      split at hh
      · cases hh; exact sLe_set ha rfl
      · cases hh
    · cases hh
  · split at hh
    · rename_i ha
      split at hh
      · cases hh; exact sLe_set ha rfl
      · cases hh
    · cases hh
  · cases hh
theorem sLe_new {k : Nat} {st st' : List Value} {h h' : sHp} (hh : sNew k st h = some (st', h')) : sLe h h' := by
  unfold sNew at hh
  (repeat' split at hh) <;> first | (cases hh; done) | (cases hh; exact sLe_app _ _)
theorem sLe_newA {k : ArrayType} {st st' : List Value} {h h' : sHp} (hh : sNewA k st h = some (st', h')) : sLe h h' := by
  unfold sNewA at hh
  (repeat' split at hh) <;> first | (cases hh; done) | (cases hh; exact sLe_app _ _)
theorem sLe_newQ {k : Nat} {st st' : List Value} {h h' : sHp} (hh : sNewQ k st h = some (st', h')) : sLe h h' := by
  unfold sNewQ at hh
  (repeat' split at hh) <;> first | (cases hh; done) | (cases hh; exact sLe_app _ _)
theorem sLe_newM {st st' : List Value} {h h' : sHp} (hh : sNewM st h = some (st', h')) : sLe h h' := by
  unfold sNewM at hh
  (repeat' split at hh) <;> first | (cases hh; done) | (cases hh; exact sLe_app _ _)
theorem sLe_cpy {st st' : List Value} {h h' : sHp} (hh : sCpy st h = some (st', h')) : sLe h h' := by
  unfold sCpy at hh
  split at hh
  · split at hh
    · rename_i ha
      split at hh
      · cases hh; exact sLe_set ha rfl
      · cases hh
    · cases hh
  · cases hh
theorem sStC_eq {d k : Nat} {as : List Value} {h h' : sHp} {r : Option Value} (hr : sStC d k as h = some (r, h')) : h' = h := by
  unfold sStC at hr
  split at hr
  · split at hr
    · cases hr; rfl
    · cases hr
  · split at hr
    · cases hr; rfl
    · cases hr
  · cases hr
theorem sHeap_le {ins : Instr} {st st' : List Value} {h h' : sHp} (hh : sHeap ins st h = some (st', h')) : sLe h h' := by
  unfold sHeap at hh
  split at hh
  · exact sLe_get hh
  · exact sLe_put hh
  · exact sLe_ldI hh
  · exact sLe_ldI hh
  · exact sLe_ldL hh
  · exact sLe_ldA hh
  · exact sLe_stI hh
  · exact sLe_stZ hh
  · exact sLe_stL hh
  · exact sLe_stA hh
  · exact sLe_al hh
  · exact sLe_new hh
  · exact sLe_newA hh
  · exact sLe_newQ hh
  · exact sLe_newM hh
  · cases hh; exact sLe_rf _
  · split at hh
    · cases hh; exact sLe_rf _
    · split at hh
      · cases hh; exact sLe_rf _
      · cases hh
  · cases hh; exact sLe_rf _
  · split at hh
    · exact sLe_cpy hh
    · cases hh
  · cases hh
theorem sRun_le {X : sX} {F : Nat → Option Instr} {rt : Option FieldType} {cal : Instr → List Value → sHp → Option (Nat × List Value × List Value)} {call : Nat → List Value → sHp → sOr} (hc : ∀ k as h r h', call k as h = some (r, h') → sLe h h') :
    ∀ (n pc : Nat) (L : sLo) (st : List Value) (h : sHp) (v : Option Value) (hf : sHp), sRun X F rt cal call n pc L st h = some (v, hf) → sLe h hf := by
  intro n
  induction n with
  | zero => intro pc L st h v hf hr; cases hr
  | succ n ih =>
    intro pc L st h v hf hr
    rw [sRun] at hr
    cases hF : F pc with
    | none => rw [hF] at hr; cases hr
    | some ins =>
      rw [hF] at hr
      dsimp only at hr
      split at hr
      · obtain ⟨st1, h1, h2⟩ := Option.bind_eq_some_iff.mp hr
        exact ih _ _ _ _ _ _ h2
      · obtain ⟨q, h1, h2⟩ := Option.bind_eq_some_iff.mp hr
        exact ih _ _ _ _ _ _ h2
      · split at hr
        · exact ih _ _ _ _ _ _ hr
        · obtain ⟨q, h1, h2⟩ := Option.bind_eq_some_iff.mp hr
          exact (sHeap_le h1).tr (ih _ _ _ _ _ _ h2)
      · obtain ⟨q, h1, h2⟩ := Option.bind_eq_some_iff.mp hr
        exact ih _ _ _ _ _ _ h2
      · obtain ⟨q, h1, h2⟩ := Option.map_eq_some_iff.mp hr
        cases h2
        exact sLe_rf _
      · obtain ⟨q, h1, h2⟩ := Option.bind_eq_some_iff.mp hr
        split at h2
        · obtain ⟨z, h3, h4⟩ := Option.bind_eq_some_iff.mp h2
          exact (hc _ _ _ _ _ h3).tr (ih _ _ _ _ _ _ h4)
        · cases h2
      · split at hr
        · obtain ⟨q, h1, h2⟩ := Option.bind_eq_some_iff.mp hr
          exact ih _ _ _ _ _ _ h2
        · cases hr
theorem sCall_le : ∀ (d n k : Nat) (as : List Value) (h : sHp) (r : Option Value) (h' : sHp), sCall d n k as h = some (r, h') → sLe h h' := by
  intro d
  induction d with
  | zero => intro n k as h r h' hr; cases hr
  | succ d ih =>
    intro n k as h r h' hr
    rw [sCall] at hr
    split at hr
    · rw [sStC_eq hr]
      exact sLe_rf h
    obtain ⟨q, h1, h2⟩ := Option.bind_eq_some_iff.mp hr
    obtain ⟨L, h3, h4⟩ := Option.bind_eq_some_iff.mp h2
    exact sRun_le (fun k as h r h' => ih n k as h r h') _ _ _ _ _ _ _ h4
/-! ===== the locals with which a method begins ===== -/
theorem sIniA_len (σ : Nat → Nat) : ∀ as : List Value, (lg_sl (as.map (rV σ))).length = (sIniA as).length
  | [] => rfl
  | v :: vs => by
    have ih := sIniA_len σ vs
    unfold lg_sl at ih ⊢
    rw [List.map_cons, List.flatMap_cons, List.length_append, ih, sIniA, rV_cat]
    split
    · simp; omega
    · simp; omega
theorem sIniA_at (σ : Nat → Nat) : ∀ (as : List Value) (i j : Nat) (v : Value), (sIniA as)[j]? = some (some v) → (i + j, rV σ v) ∈ lv_args i (as.map (rV σ))
  | [], i, j, v, h => by cases h
  | w :: vs, i, j, v, h => by
    rw [sIniA] at h
    rw [List.map_cons, lv_args, rV_cat]
    by_cases hc : w.category = 2
    · rw [if_pos hc] at h ⊢
      match j, h with
      | 0, h => rw [List.getElem?_cons_zero] at h; cases h; exact List.mem_cons_self
      | 1, h => rw [List.getElem?_cons_succ, List.getElem?_cons_zero] at h; cases h
      | j + 2, h =>
        rw [List.getElem?_cons_succ, List.getElem?_cons_succ] at h
        have := sIniA_at σ vs (i + 2) j v h
        rw [show i + (j + 2) = i + 2 + j by omega]
        exact List.mem_cons_of_mem _ this
    · rw [if_neg hc] at h ⊢
      match j, h with
      | 0, h => rw [List.getElem?_cons_zero] at h; cases h; exact List.mem_cons_self
      | j + 1, h =>
        rw [List.getElem?_cons_succ] at h
        have := sIniA_at σ vs (i + 1) j v h
        rw [show i + (j + 1) = i + 1 + j by omega]
        exact List.mem_cons_of_mem _ this
theorem sIniA_nd : ∀ (as : List Value), as.all sNd = true → ∀ (j : Nat) (x : UInt64), (sIniA as)[j]? ≠ some (some (.double x))
  | [], _, j, x => by intro h; cases h
  | w :: vs, ha, j, x => by
    rw [List.all_cons, Bool.and_eq_true] at ha
    have ih := sIniA_nd vs ha.2
    rw [sIniA]
    split
    · match j with
      | 0 => rw [List.getElem?_cons_zero]; intro h; cases h; exact absurd (show sNd (.double x) = true from ha.1) (fun q => by cases q)
      | 1 => rw [List.getElem?_cons_succ, List.getElem?_cons_zero]; intro h; cases h
      | j + 2 => rw [List.getElem?_cons_succ, List.getElem?_cons_succ]; exact ih j x
    · match j with
      | 0 => rw [List.getElem?_cons_zero]; intro h; cases h; exact absurd (show sNd (.double x) = true from ha.1) (fun q => by cases q)
      | j + 1 => rw [List.getElem?_cons_succ]; exact ih j x
theorem s_ini {σ : Nat → Nat} {nL : Nat} {as : List Value} {L : sLo} (h : sIni nL as = some L) : sLs σ nL L ((lg_sl (as.map (rV σ)) ++ List.replicate (nL - (lg_sl (as.map (rV σ))).length) Slot.unset).toArray) := by
  unfold sIni at h
  split at h
  · rename_i hc
    cases h
    obtain ⟨h1, h2⟩ := hc
    refine ⟨by rw [List.length_append, List.length_replicate]; omega, fun i x hi => ?_, lv_mono (lv_entry _ (by rw [sIniA_len]; exact h2)) fun q hq => ?_⟩
    · by_cases hl : i < (sIniA as).length
      · rw [List.getElem?_append_left hl] at hi
        exact sIniA_nd as h1 i x hi
      · rw [List.getElem?_append_right (by omega)] at hi
        have := List.eq_of_mem_replicate (List.mem_of_getElem? hi)
        cases this
    · obtain ⟨v, g1, g2⟩ := sEnt_mem.mp hq
      by_cases hl : q.1 < (sIniA as).length
      · rw [List.getElem?_append_left hl] at g1
        have g3 := sIniA_at σ as 0 q.1 v g1
        rw [Nat.zero_add] at g3
        have : q = (q.1, rV σ v) := by rw [← g2]
        rw [this]
        exact g3
      · rw [List.getElem?_append_right (by omega)] at g1
        have := List.eq_of_mem_replicate (List.mem_of_getElem? g1)
        cases this
  · cases h
/-! ===== what is carried beside the tables ===== -/
theorem sAO_use {s : State} {t : FieldType} {args : Array Value} (h : (Jvm.Cond.arrayOver (.array t)).before args s = true) : ∃ (comp c : ClassId) (k : Class), s.vm.findClass (FieldType.array t).toString = some comp ∧ (s.vm.classes.findIdx? fun (x : Class) => match x.kind with | .array component _ => component == comp | _ => false) = some c ∧ s.vm.classes[c]? = some k ∧ k.kind = .array comp (.array t) ∧ s.vm.findClass ("[" ++ (FieldType.array t).toString) = some c := by
  unfold Jvm.Cond.before at h
  simp only [Jvm.Cond.holds, Jvm.Cond.value, beq_iff_eq] at h
  cases hc : s.vm.findClass (FieldType.array t).toString with
  | none => simp [hc] at h
  | some comp =>
    simp only [hc, Option.bind_some, Option.bind_eq_some_iff, Option.map_eq_some_iff] at h
    obtain ⟨c, hi, k, hk, hb⟩ := h
    obtain ⟨hlt, hp, -⟩ := Array.findIdx?_eq_some_iff_getElem.mp hi
    have hkk : s.vm.classes[c] = k := (Array.getElem?_eq_some_iff.mp hk).2
    rw [hkk] at hp
    cases hkind : k.kind with
    | array component ty =>
      rw [hkind] at hb hp
      simp at hb hp
      exact ⟨comp, c, k, rfl, hi, hk, by rw [hkind, hp, hb.1], hb.2⟩
    | _ => rw [hkind] at hb; simp at hb
theorem sAO_moved {t : FieldType} {args args' : Array Value} {u U : State} (hvm : u.vm.Alike U.vm) (h : (Jvm.Cond.arrayOver (.array t)).before args u = true) : (Jvm.Cond.arrayOver (.array t)).before args' U = true := by
  obtain ⟨comp, c, k, h1, h2, h3, h4, h5⟩ := sAO_use h
  obtain ⟨k', hk', he⟩ := hvm.2.2 _ _ h3
  have hi : (U.vm.classes.findIdx? fun (x : Class) => match x.kind with | .array component _ => component == comp | _ => false) = some c := by
    refine (va_idx_bare U.vm comp).symm.trans ?_
    first | rw [hvm.bare_eq] | rw [← hvm.bare_eq]
    exact (va_idx_bare u.vm comp).trans h2
  have hkind : k'.kind = .array comp (.array t) := by rw [he]; exact h4
  have f1 : U.vm.findClass (FieldType.array t).toString = some comp := by rw [hvm.findClass]; exact h1
  have f2 : U.vm.findClass ("[" ++ (FieldType.array t).toString) = some c := by rw [hvm.findClass]; exact h5
  unfold Jvm.Cond.before Jvm.Cond.holds
  simp only [Jvm.Cond.value]
  rw [f1, Option.bind_some]
  refine (congrArg (fun o : Option Nat => (o.bind (fun c => (U.vm.classes[c]?).map fun (k : Class) => match k.kind with | .array _ ty => decide (ty = FieldType.array t) && decide (U.vm.findClass ("[" ++ (FieldType.array t).toString) = some c) | _ => false) == some true)) hi).trans ?_
  simp [hk', hkind, f2]
theorem sNw_warm {s U : State} (hW : s.WarmedH U.vm) (h : sNw s) : sNw U := by
  intro w hw
  have hs := h w hw
  simp only [sNwl, List.mem_cons, List.not_mem_nil, or_false] at hw
  rcases hw with rfl | rfl | rfl | rfl | rfl | rfl | rfl | rfl | rfl | rfl | rfl
  · exact va_AO.moved hW.alike hs
  · exact va_AO.moved hW.alike hs
  · exact sAO_moved hW.alike hs
  all_goals first | exact va_Nw.warmC hW hs | exact va_Nw.warmM hW hs
theorem sNw_same {u U : State} (e : u.vm = U.vm) (h : sNw u) : sNw U := by
  intro w hw
  have hs := h w hw
  have ha : u.vm.Alike U.vm := by rw [e]; exact Vm.Alike.refl _
  simp only [sNwl, List.mem_cons, List.not_mem_nil, or_false] at hw
  rcases hw with rfl | rfl | rfl | rfl | rfl | rfl | rfl | rfl | rfl | rfl | rfl
  · exact va_AO.moved ha hs
  · exact va_AO.moved ha hs
  · exact sAO_moved ha hs
  all_goals exact va_Nw.same rfl e hs
end
section
/-! ===== the calls that a cut answers by its kind ===== -/
def sFpL : List (List (List Nat)) := [[[2219, 2217, 3007, 2220], [2219, 2217, 3007, 2227], [2219, 2217, 3007, 2218], [0, 0, 0, 0], [2219, 2217, 3007, 2231], [2219, 2217, 3007, 2235], [0, 0, 0, 0], [0, 0, 0, 0], [0, 0, 0, 0], [2219, 2217, 3007, 3002], [2219, 2217, 3007, 3003]], [[3017, 3015, 3057, 3018], [3017, 3015, 3057, 3025], [3017, 3015, 3057, 3016], [0, 0, 0, 0], [3017, 3015, 3057, 3037], [3017, 3015, 3057, 3044], [0, 0, 0, 0], [0, 0, 0, 0], [0, 0, 0, 0], [3017, 3015, 3057, 3048], [3017, 3015, 3057, 3052]], [[3065, 3063, 3075, 3066], [3065, 3063, 3075, 3067], [3065, 3063, 3075, 3064], [0, 0, 0, 0], [3065, 3063, 3075, 3068], [3065, 3063, 3075, 3069], [0, 0, 0, 0], [0, 0, 0, 0], [0, 0, 0, 0], [3065, 3063, 3075, 3073], [3065, 3063, 3075, 3074]], [[5088, 5086, 5111, 5089], [5088, 5086, 5111, 5101], [5088, 5086, 5111, 5087], [0, 0, 0, 0], [5088, 5086, 5111, 5102], [5088, 5086, 5111, 5103], [0, 0, 0, 0], [0, 0, 0, 0], [0, 0, 0, 0], [5088, 5086, 5111, 5104], [5088, 5086, 5111, 5105]], [[5116, 5114, 5134, 5117], [5116, 5114, 5134, 5122], [5116, 5114, 5134, 5115], [0, 0, 0, 0], [5116, 5114, 5134, 5127], [5116, 5114, 5134, 5128], [0, 0, 0, 0], [0, 0, 0, 0], [0, 0, 0, 0], [5116, 5114, 5134, 5129], [5116, 5114, 5134, 5130]], [[5139, 5137, 5155, 5140], [5139, 5137, 5155, 5141], [5139, 5137, 5155, 5138], [0, 0, 0, 0], [5139, 5137, 5155, 5142], [5139, 5137, 5155, 5148], [0, 0, 0, 0], [0, 0, 0, 0], [0, 0, 0, 0], [5139, 5137, 5155, 5153], [5139, 5137, 5155, 5154]]]
def sFamB (k ci p0 p1 p2 p3 : Nat) : Bool := match sM (sVt k ci), sM (sFn k) with
  | some z, some zx => decide (sVt k ci < 258 ∧ mA z = 1 ∧ mK z = 1 ∧ (parseMethodDescriptor (sFx k).desc).map (fun d => d.parameters.length) = some 1) && (sWi p0 (.sameMethod (sFx k).cls RX2 (sFx k).name (sFx k).desc) && (sWi p1 (.instanceMethod ⟨RX2, (sFx k).name, (sFx k).desc⟩) && (sWi p3 (.selects (sCN ci) (sFx k) (mY z)) && sWi p2 (.code ⟨RX2, (sFx k).name, (sFx k).desc⟩ (mC zx) (mN zx) (mR zx)))))
  | _, _ => false
def sFamC (k ci : Nat) : Bool := sGrp ci != 2 || (match ((sFpL[k - 1000]?).bind (fun r => r[ci]?)) with
  | some [p0, p1, p2, p3] => sFamB k ci p0 p1 p2 p3
  | _ => false)
theorem sFam_dec : ((List.range 6).all fun f => (List.range 11).all fun ci => sFamC (1000 + f) ci) = true := by decide +kernel
theorem sFam_of {k ci : Nat} (h1 : 1000 ≤ k) (h2 : k < 1006) (h3 : ci < 11) (h4 : sGrp ci = 2) : ∃ z zx, sM (sVt k ci) = some z ∧ sVt k ci < 258 ∧ mA z = 1 ∧ mK z = 1 ∧ (parseMethodDescriptor (sFx k).desc).map (fun d => d.parameters.length) = some 1 ∧ Jvm.Cond.sameMethod (sFx k).cls RX2 (sFx k).name (sFx k).desc ∈ sTB ∧ Jvm.Cond.instanceMethod ⟨RX2, (sFx k).name, (sFx k).desc⟩ ∈ sTB ∧ Jvm.Cond.selects (sCN ci) (sFx k) (mY z) ∈ sTB ∧ Jvm.Cond.code ⟨RX2, (sFx k).name, (sFx k).desc⟩ (mC zx) (mN zx) (mR zx) ∈ sTB := by
  have h := List.all_eq_true.mp (List.all_eq_true.mp sFam_dec (k - 1000) (List.mem_range.mpr (by omega))) ci (List.mem_range.mpr h3)
  rw [show 1000 + (k - 1000) = k by omega] at h
  unfold sFamC at h
  rw [h4, show ((2 : Nat) != 2) = false from rfl, Bool.false_or] at h
  split at h
  · unfold sFamB at h
    split at h
    · rename_i z zx e1 e2
      simp only [Bool.and_eq_true, decide_eq_true_eq] at h
      obtain ⟨⟨a1, a2, a3, a4⟩, b0, b1, b3, b2⟩ := h
      exact ⟨z, zx, e1, a1, a2, a3, a4, sWi_in b0, sWi_in b1, sWi_in b3, sWi_in b2⟩
    · cases h
  · cases h
end
section
/-! ===== the run: calls, and all of it ===== -/
theorem sChkM_of {q : sMt} (h : sChkM q = true) : Jvm.Cond.code (mY q) (mC q) (mN q) (mR q) ∈ sTB ∧ Jvm.Cond.initialized (mY q).cls ∈ sTB ∧ (mK q = 0 → Jvm.Cond.static (mY q) ∈ sTB) ∧ (mK q ≠ 0 → Jvm.Cond.instanceMethod (mY q) ∈ sTB) ∧ Jvm.plainName (mY q).cls = true ∧ ((mY q).cls ≠ "java/lang/invoke/MethodHandle" ∧ (mY q).cls ≠ "java/lang/invoke/VarHandle" ∧ (parseMethodDescriptor (mY q).desc).map (fun d => d.parameters.length) = some (mA q)) ∧ mN q ≤ 16 ∧ (mK q = 2 → (mY q).name = "<init>" ∧ mR q = none) ∧ (mK q = 1 → (mY q).name ≠ "<init>") ∧ (mK q ≠ 0 → vwCl[mI q]?.map (fun z => z.1) = some (mY q).cls) := by
  unfold sChkM at h
  simp only [Bool.and_eq_true] at h
  obtain ⟨h1, h2, h3, h4, h5, h6, h7⟩ := h
  split at h1
  · simp only [Bool.and_eq_true] at h1
    obtain ⟨a1, a2, a3⟩ := h1
    refine ⟨sWi_in a1, sWi_in a2, fun e => ?_, fun e => ?_, h2, of_decide_eq_true h3, of_decide_eq_true h4, of_decide_eq_true h5, of_decide_eq_true h6, of_decide_eq_true h7⟩
    · rw [if_pos e] at a3; exact sWi_in a3
    · rw [if_neg e] at a3; exact sWi_in a3
  · cases h1
theorem sFt_of {q : sMt} {pc : Nat} {ins : Instr} (h : sFt q pc = some ins) : ∃ e ∈ mT q, e.1 = pc ∧ e.2.2.1 = ins := by
  unfold sFt at h
  split at h
  · rename_i e he
    cases h
    exact ⟨e, List.mem_of_find?_eq_some he, by have := List.find?_some he; exact beq_iff_eq.mp this, rfl⟩
  · cases h
theorem sChkE_of {q : sMt} {pc : Nat} {ins : Instr} (hq : ∀ e ∈ mT q, sChkE q e = true) (h : sFt q pc = some ins) (hn : ins ≠ .nop) : ∃ (r : List Nat) (len : Nat), decode (mC q) pc = .ok (sReal ins r, len) ∧ (sSw ins = true ∨ len = sLen ins) ∧ sExt (mY q).cls (mY q).name ins r = true := by
  obtain ⟨e, he, h1, h2⟩ := sFt_of h
  have hc := hq e he
  unfold sChkE at hc
  split at hc
  · rename_i e2
    exact absurd (h2.symm.trans e2) hn
  · simp only [Bool.and_eq_true, Bool.or_eq_true, decide_eq_true_eq] at hc
    obtain ⟨a1, a2, a3⟩ := hc
    rw [h1, h2] at a1
    rw [h2] at a2 a3
    exact ⟨e.2.2.2, e.2.1, a1, a2, a3⟩
theorem sPure_real {ins : Instr} {st st' : List Value} (h : sPure ins st = some st') (r : List Nat) : sReal ins r = ins ∧ sSw ins = false ∧ ins ≠ .nop := by
  unfold sPure at h
  split at h <;> first | (cases h; done) | exact ⟨rfl, rfl, (fun z => by cases z)⟩
theorem sLoc_real {ins : Instr} {L : sLo} {st : List Value} {z : sLo × List Value} (h : sLoc ins L st = some z) (r : List Nat) : sReal ins r = ins ∧ sSw ins = false ∧ ins ≠ .nop := by
  unfold sLoc at h
  split at h <;> first | (cases h; done) | exact ⟨rfl, rfl, (fun z => by cases z)⟩
theorem sRet_real {rt : Option FieldType} {ins : Instr} {st : List Value} {z : Option Value} (h : sRet rt ins st = some z) (r : List Nat) : sReal ins r = ins ∧ sSw ins = false ∧ ins ≠ .nop ∧ sLen ins = 1 := by
  unfold sRet at h
  split at h <;> first | (cases h; done) | exact ⟨rfl, rfl, (fun z => by cases z), rfl⟩
theorem sJmp_real {ins : Instr} {pc : Nat} {st : List Value} {z : Nat × List Value} (h : sJmp ins pc st = some z) (r : List Nat) : sReal ins r = ins ∧ ins ≠ .nop ∧ ((∃ d lo hi o, ins = .tableswitch d lo hi o) ∨ (∃ d ps, ins = .lookupswitch d ps) ∨ (sSw ins = false ∧ sLen ins = 3 ∧ ∀ d ps, ins ≠ .lookupswitch d ps)) := by
  unfold sJmp at h
  split at h
  · exact ⟨rfl, (fun z => by cases z), Or.inr (Or.inr ⟨rfl, rfl, (fun _ _ z => by cases z)⟩)⟩
  · exact ⟨rfl, (fun z => by cases z), Or.inr (Or.inr ⟨rfl, rfl, (fun _ _ z => by cases z)⟩)⟩
  · exact ⟨rfl, (fun z => by cases z), Or.inr (Or.inr ⟨rfl, rfl, (fun _ _ z => by cases z)⟩)⟩
  · exact ⟨rfl, (fun z => by cases z), Or.inr (Or.inr ⟨rfl, rfl, (fun _ _ z => by cases z)⟩)⟩
  · exact ⟨rfl, (fun z => by cases z), Or.inr (Or.inr ⟨rfl, rfl, (fun _ _ z => by cases z)⟩)⟩
  · exact ⟨rfl, (fun z => by cases z), Or.inl ⟨_, _, _, _, rfl⟩⟩
  · exact ⟨rfl, (fun z => by cases z), Or.inr (Or.inl ⟨_, _, rfl⟩)⟩
  · cases h
theorem sHeap_nop {ins : Instr} {st : List Value} {h : sHp} {z : List Value × sHp} (hh : sHeap ins st h = some z) : ins ≠ .nop ∧ sSw ins = false := by
  unfold sHeap at hh
  split at hh <;> first | exact ⟨(fun z => by cases z), rfl⟩ | (cases hh; done)
section RUN
variable {p : Program} {l : Launch} {e : Env} {R : Room} {s : State} {m : MethodId} {args : Array Value} {below : List Frame} {meth : Method} {c : Code} {H : Heap} {locs : List Loc} {cells slots : Nat} {Q : State → Prop} {cc : ByteArray} {pc : Nat} {ls : Array Slot} {nL base : Nat} {b : Nat → Nat} {D : va_G} {dA : Nat → ClassId} {own : String}
def sPre (base : Nat) (b : Nat → Nat) (D : va_G) (dA : Nat → ClassId) (h : sHp) : State → Prop := fun U => U.heap.size = base + h.length ∧ va_P D vwCl (rW (sAd base b) dA h) U.heap ∧ va_K D vwCl (sTys dA) U ∧ sNw U ∧ sOuw base b U U.heap
def sQ (base : Nat) (b : Nat → Nat) (D : va_G) (dA : Nat → ClassId) (r : Option Value) (h' : sHp) : Array Value → State → Outcome → State → Prop := fun _ st oc t => (oc = .returned (r.map (rV (sAd base b))) ∧ va_P D vwCl (rW (sAd base b) dA h') t.heap) ∧ va_F (fun q => base ≤ q) st t
def sWs (q : sMt) : List Jvm.Cond := .code (mY q) (mC q) (mN q) (mR q) :: sTB
def sRm (d mc ms : Nat) : Room := { frames := d, cells := mc, slots := ms, locals := 39 * d }
def sMet (l : Launch) (base : Nat) (b : Nat → Nat) (D : va_G) (dA : Nat → ClassId) (d : Nat) (q : sMt) (as : List Value) (h : sHp) (r : Option Value) (h' : sHp) : Prop :=
  Met l (mY q) (sWs q) (sRm d (h'.length - h.length) (sSl h' - sSl h)) (va_Pc (as.map (rV (sAd base b))) (sPre base b D dA h)) (sQ base b D dA r h') (h'.length - h.length) (sSl h' - sSl h) (fun q => base ≤ q)
theorem s_blind {as : List Value} {h : sHp} : FrameBlind (va_Pc as (sPre base b D dA h)) := by
  intro a U g mk hv
  obtain ⟨e1, e2, e3, e4, e5, e6⟩ := hv
  exact ⟨e1, e2, e3, va_K.moved (u := U) (U := U.calling g mk a) (Vm.Alike.refl U.vm) e4, sNw_same (u := U) rfl e5, sOuw_same (s := U) rfl e6⟩
theorem s_back {mc ms : Nat} {a : Array Value} {r : Option Value} {h' : sHp} {st0 rest : List Value} (hr : va_Run p l e R s m args below meth c H locs cells slots mc ms (F0 m pc ls st0) rest (sQ base b D dA r h' a) (fun q => base ≤ q)) (hS : va_S (fun q => base ≤ q) s.heap H locs)
    (kk : ∀ (H1 : Heap) (locs1 : List Loc), va_P D vwCl (rW (sAd base b) dA h') H1 → va_S (fun q => base ≤ q) s.heap H1 locs1 → W p l e R s m args below meth c H1 locs1 (cells + mc) (slots + ms) Q (F0 m (pc + 3) ls ((r.map (rV (sAd base b))).toList ++ rest))) : W p l e R s m args below meth c H locs cells slots Q (F0 m pc ls st0) := by
  intro T hT X
  obtain ⟨v, st₀, t, T', L, h0, X', hL, e1, e2, ⟨⟨hv, hP⟩, hz, hk⟩, st⟩ := hr T hT X
  cases hv
  rw [h0] at hz hk
  obtain ⟨t2, a1, b1⟩ := kk T'.heap (locs ++ L) (by rw [e1]; exact hP) ⟨Nat.le_trans hS.1 (by rw [e1]; exact hz), fun q h1 h2 => by rw [e1, hk q (Nat.lt_of_lt_of_le h1 hS.1) h2]; exact hS.2.1 q h1 h2, fun q hq => by
      rcases List.mem_append.mp hq with h | h
      · exact hS.2.2 q h
      · exact hL q h⟩ T' rfl X'
  exact ⟨t2, st t2 a1, b1⟩
theorem sPop_of {n : Nat} {st : List Value} {z : List Value × List Value} (h : sPop n st = some z) : st = z.1.reverse ++ z.2 ∧ z.1.length = n := by
  unfold sPop at h
  split at h
  · rename_i hn
    cases h
    exact ⟨by simp, by simp; omega⟩
  · cases h
theorem rS_cat (σ : Nat → Nat) (st : List Value) : (rS σ st).map (fun v => v.category) = st.map (fun v => v.category) := by
  unfold rS
  rw [List.map_map]
  exact List.map_congr_left fun v _ => rV_cat σ v
theorem rS_back (σ : Nat → Nat) (r : Option Value) (st : List Value) : (r.map (rV σ)).toList ++ rS σ st = rS σ (r.toList ++ st) := by cases r <;> rfl
theorem sWs_in {q : sMt} (h : sChkM q = true) : ∀ w ∈ sWs q, w ∈ sTB := by
  intro w hw
  rcases List.mem_cons.mp hw with rfl | hw
  · exact (sChkM_of h).1
  · exact hw
/-- what every call needs, and what comes behind it -/
def sNext (p : Program) (l : Launch) (e : Env) (R : Room) (s : State) (m : MethodId) (args : Array Value) (below : List Frame) (meth : Method) (c : Code) (cells slots : Nat) (Q : State → Prop) (pc : Nat) (ls : Array Slot) (base : Nat) (b : Nat → Nat) (D : va_G) (dA : Nat → ClassId) (h : sHp) (r : Option Value) (h' : sHp) (rest : List Value) : Prop :=
  ∀ (H1 : Heap) (locs1 : List Loc), sSt base b D dA s h' H1 locs1 → W p l e R s m args below meth c H1 locs1 (cells + (h'.length - h.length)) (slots + (sSl h' - sSl h)) Q (F0 m (pc + 3) ls (rS (sAd base b) (r.toList ++ rest)))
theorem s_pre (E : sEnv p s m c args cc nL base b D dA own) {h : sHp} (S : sSt base b D dA s h H locs) (hH : H.size = base + h.length) (as : List Value) : ∀ U : State, U.heap = H → s.WarmedH U.vm → va_Pc as (sPre base b D dA h) as.toArray U := by
  obtain ⟨hx, hb, hml, hown, hts, hK, hbs, hnw, hou⟩ := E
  intro U hU hW
  exact ⟨rfl, by rw [hU]; exact hH, by rw [hU]; exact S.1, va_K.moved hW.alike hK, sNw_warm hW hnw, by rw [hU]; exact sOuw_warm hW (sOuw_kept S.2.1.2.1 hou)⟩
theorem s_callStatic (E : sEnv p s m c args cc nL base b D dA own) {h h' : sHp} (S : sSt base b D dA s h H locs) (hsl : ls.size = nL) (ac : s.heap.size + cells = base + h.length) {d idx : Nat} {z : sMt} {as rest : List Value} {r : Option Value} (hz : sChkM z = true) (h0 : mK z = 0) (hl : Jvm.Cond.methodLink own idx (mY z) ∈ sTB) (hM : sMet l base b D dA d z as h r h') (hn : as.length = mA z) (hcat : (rest.map (fun v => v.category)).sum ≤ 8)
    (hRf : d + 1 ≤ R.frames) (hRl : 39 * (d + 1) ≤ R.locals) (hc : cells + (h'.length - h.length) ≤ R.cells) (hs : slots + (sSl h' - sSl h) ≤ R.slots) (hl1 : h'.length ≤ 1000000) (hdg : decode cc pc = .ok (.invokestatic idx, 3))
    (kk : sNext p l e R s m args below meth c cells slots Q pc ls base b D dA h r h' rest) : W p l e R s m args below meth c H locs cells slots Q (F0 m pc ls (rS (sAd base b) (as.reverse ++ rest))) := by
  obtain ⟨hx, hb, hml, hown, hts, hK, hbs, hnw, hou⟩ := id E
  obtain ⟨f1, f2, f3, f4, f5, f6, f7, f8, f9, f10⟩ := sChkM_of hz
  refine W_size fun hzz => ?_
  have hH := s_size S hbs ac hzz
  have hr := va_runS (p := p) (l := l) (e := e) (R := R) (below := below) (meth := meth) (locs := locs) (cells := cells) (slots := slots) (As := rS (sAd base b) as) (rest := rS (sAd base b) rest) (g := F0 m pc ls (rS (sAd base b) (as.reverse ++ rest))) ⟨hx, hb, hml, hown, hts⟩ hM (va_cwS (mA z) hts (sTB_in (fun w hw => by
    rcases List.mem_append.mp hw with hw | hw
    · simp only [List.mem_cons, List.not_mem_nil, or_false] at hw
      rcases hw with rfl | rfl | rfl
      · exact hl
      · exact f3 h0
      · exact f2
    · exact sWs_in hz w hw)) rfl rfl rfl f6 ⟨hRf, by show 8 + (mN z + 11) + 39 * d ≤ _; omega⟩) ⟨s_blind, s_pre E S hH _⟩ rfl (by rw [List.length_map]; exact hn) hsl (by rw [rS, List.map_append, List.map_reverse]) (lv_room (by rw [rS_cat]; exact hcat)) hdg ⟨hc, hs⟩
  refine s_back hr S.2.1 fun H1 l1 P1 S1 => ?_
  rw [rS_back]
  exact kk H1 l1 ⟨P1, S1, hl1⟩
theorem s_callInit (E : sEnv p s m c args cc nL base b D dA own) {h h' : sHp} (S : sSt base b D dA s h H locs) (hsl : ls.size = nL) (ac : s.heap.size + cells = base + h.length) {d idx o : Nat} {z : sMt} {as rest : List Value} {r : Option Value} (hz : sChkM z = true) (h0 : mK z = 2) (hl : Jvm.Cond.methodLink own idx (mY z) ∈ sTB ∨ Jvm.Cond.methodLinkNest own idx (mY z) RX11 ∈ sNwl) (hM : sMet l base b D dA d z (.ref o :: as) h r h') (hn : as.length = mA z) (hcat : (rest.map (fun v => v.category)).sum ≤ 8)
    (hRf : d + 1 ≤ R.frames) (hRl : 39 * (d + 1) ≤ R.locals) (hc : cells + (h'.length - h.length) ≤ R.cells) (hs : slots + (sSl h' - sSl h) ≤ R.slots) (hl1 : h'.length ≤ 1000000) (hdg : decode cc pc = .ok (.invokespecial idx, 3))
    (kk : sNext p l e R s m args below meth c cells slots Q pc ls base b D dA h r h' rest) : W p l e R s m args below meth c H locs cells slots Q (F0 m pc ls (rS (sAd base b) (as.reverse ++ .ref o :: rest))) := by
  obtain ⟨hx, hb, hml, hown, hts, hK, hbs, hnw, hou⟩ := id E
  obtain ⟨f1, f2, f3, f4, f5, f6, f7, f8, f9, f10⟩ := sChkM_of hz
  obtain ⟨g1, g2⟩ := f8 h0
  refine W_size fun hzz => ?_
  have hH := s_size S hbs ac hzz
  have hin : Jvm.Cond.instanceMethod (mY z) ∈ sTB := f4 (by rw [h0]; decide)
  have hw : sWs z = Jvm.Cond.code (mY z) (mC z) (mN z) none :: sTB := by unfold sWs; rw [g2]
  have hroom : (sRm d (h'.length - h.length) (sSl h' - sSl h)).frames + 1 ≤ R.frames ∧ 8 + (mN z + 11) + (sRm d (h'.length - h.length) (sSl h' - sSl h)).locals ≤ R.locals := ⟨hRf, by show 8 + (mN z + 11) + 39 * d ≤ _; omega⟩
  have hst : rS (sAd base b) (as.reverse ++ .ref o :: rest) = (rS (sAd base b) as).reverse ++ .ref (sAd base b o) :: rS (sAd base b) rest := by rw [rS, List.map_append, List.map_reverse]; rfl
  rcases hl with hl | hl
  · have hr := va_runI (p := p) (l := l) (e := e) (R := R) (below := below) (meth := meth) (locs := locs) (cells := cells) (slots := slots) (As := rS (sAd base b) as) (rest := rS (sAd base b) rest) (g := F0 m pc ls (rS (sAd base b) (as.reverse ++ .ref o :: rest))) ⟨hx, hb, hml, hown, hts⟩ hM (cwI (mA z) hts (sTB_in (sWs_in hz)) hw rfl rfl (hts _ f2) (hts _ hl) (hts _ hin) g1 f6 hroom) ⟨s_blind, s_pre E S hH _⟩ rfl (by rw [List.length_map]; exact hn) hsl hst (lv_room (by rw [rS_cat]; exact hcat)) hdg ⟨hc, hs⟩
    refine s_back hr S.2.1 fun H1 l1 P1 S1 => ?_
    rw [rS_back]
    exact kk H1 l1 ⟨P1, S1, hl1⟩
  · have hr := va_runIN (p := p) (l := l) (e := e) (R := R) (below := below) (meth := meth) (locs := locs) (cells := cells) (slots := slots) (As := rS (sAd base b) as) (rest := rS (sAd base b) rest) (g := F0 m pc ls (rS (sAd base b) (as.reverse ++ .ref o :: rest))) ⟨hx, hb, hml, hown, hts⟩ hM ⟨va_cnB (mA z) hts (sTB_in (sWs_in hz)) hw rfl rfl (hnw _ hl) (hts _ f2) f6 hroom, g1, hts _ hin⟩ ⟨s_blind, s_pre E S hH _⟩ rfl (by rw [List.length_map]; exact hn) hsl hst (lv_room (by rw [rS_cat]; exact hcat)) hdg ⟨hc, hs⟩
    refine s_back hr S.2.1 fun H1 l1 P1 S1 => ?_
    rw [rS_back]
    exact kk H1 l1 ⟨P1, S1, hl1⟩
theorem s_recv (E : sEnv p s m c args cc nL base b D dA own) {h : sHp} (S : sSt base b D dA s h H locs) {o ci : Nat} {fs : List Value} (ho : h[o]? = some (.inr (ci, fs))) : ∃ q, vwCl[ci]? = some q ∧ (∃ cell : Cell, H[sAd base b o]? = some cell ∧ cell.vm.isStatics = false ∧ s.vm.findClass q.1 = some cell.cls) ∧ ClassAt s q.1 (D.1 ci) := by
  obtain ⟨hx, hb, hml, hown, hts, hK, hbs, hnw, hou⟩ := E
  obtain ⟨q, hq⟩ := s_cls S ho
  exact ⟨q, hq, va_recv hK S.1 hq (rW_at ho), (hK.1 ci q hq).2⟩
theorem s_callUp (E : sEnv p s m c args cc nL base b D dA own) {h h' : sHp} (S : sSt base b D dA s h H locs) (hsl : ls.size = nL) (ac : s.heap.size + cells = base + h.length) {d idx o ci : Nat} {fs : List Value} (ho : h[o]? = some (.inr (ci, fs))) {z : sMt} {as rest : List Value} {r : Option Value} (hz : sChkM z = true) (h0 : mK z = 1) (hl : Jvm.Cond.methodLink own idx (mY z) ∈ sTB) (hl2 : Jvm.Cond.sameMethod (mY z).cls (mY z).cls (mY z).name (mY z).desc ∈ sTB) (hl3 : Jvm.Cond.superclass own (mY z).cls ∈ sTB) (hM : sMet l base b D dA d z (.ref o :: as) h r h') (hn : as.length = mA z) (hcat : (rest.map (fun v => v.category)).sum ≤ 8)
    (hRf : d + 1 ≤ R.frames) (hRl : 39 * (d + 1) ≤ R.locals) (hc : cells + (h'.length - h.length) ≤ R.cells) (hs : slots + (sSl h' - sSl h) ≤ R.slots) (hl1 : h'.length ≤ 1000000) (hdg : decode cc pc = .ok (.invokespecial idx, 3))
    (kk : sNext p l e R s m args below meth c cells slots Q pc ls base b D dA h r h' rest) : W p l e R s m args below meth c H locs cells slots Q (F0 m pc ls (rS (sAd base b) (as.reverse ++ .ref o :: rest))) := by
  obtain ⟨hx, hb, hml, hown, hts, hK, hbs, hnw, hou⟩ := id E
  obtain ⟨f1, f2, f3, f4, f5, f6, f7, f8, f9, f10⟩ := sChkM_of hz
  obtain ⟨q, hq, hrc, hat⟩ := s_recv E S ho
  refine W_size fun hzz => ?_
  have hH := s_size S hbs ac hzz
  have hin : Jvm.Cond.instanceMethod (mY z) ∈ sTB := f4 (by rw [h0]; decide)
  have hroom : (sRm d (h'.length - h.length) (sSl h' - sSl h)).frames + 1 ≤ R.frames ∧ 8 + (mN z + 11) + (sRm d (h'.length - h.length) (sSl h' - sSl h)).locals ≤ R.locals := ⟨hRf, by show 8 + (mN z + 11) + 39 * d ≤ _; omega⟩
  have hst : rS (sAd base b) (as.reverse ++ .ref o :: rest) = (rS (sAd base b) as).reverse ++ .ref (sAd base b o) :: rS (sAd base b) rest := by rw [rS, List.map_append, List.map_reverse]; rfl
  have hr := va_runSU (p := p) (l := l) (e := e) (R := R) (below := below) (meth := meth) (locs := locs) (cells := cells) (slots := slots) (As := rS (sAd base b) as) (rest := rS (sAd base b) rest) (g := F0 m pc ls (rS (sAd base b) (as.reverse ++ .ref o :: rest))) hat ⟨hx, hb, hml, hown, hts⟩ hM (va_cwSU (mA z) hts (sTB_in (fun w hw => by
    rcases List.mem_append.mp hw with hw | hw
    · simp only [List.mem_cons, List.not_mem_nil, or_false] at hw
      rcases hw with rfl | rfl | rfl | rfl | rfl
      · exact hl
      · exact hl2
      · exact hl3
      · exact hin
      · exact f2
    · exact sWs_in hz w hw)) rfl rfl rfl ⟨f9 h0, f6.2.2⟩ hroom) ⟨s_blind, hrc, s_pre E S hH _⟩ rfl (by rw [List.length_map]; exact hn) hsl hst (lv_room (by rw [rS_cat]; exact hcat)) hdg ⟨hc, hs⟩
  refine s_back hr S.2.1 fun H1 l1 P1 S1 => ?_
  rw [rS_back]
  exact kk H1 l1 ⟨P1, S1, hl1⟩
theorem s_isSub {vm : Vm} {a c : ClassId} {k : Class} (h1 : vm.classes[a]? = some k) (h2 : k.super = some c) : vm.isSubclass a c = true := by
  have hp : 0 < vm.classes.size := Nat.lt_of_le_of_lt (Nat.zero_le _) (Array.getElem?_eq_some_iff.mp h1).1
  obtain ⟨n, hn⟩ : ∃ n, vm.classes.size = n + 1 := ⟨vm.classes.size - 1, by omega⟩
  unfold Vm.isSubclass
  rw [hn]
  simp [Vm.isSubclassAux, h1, h2]
theorem s_callSU2 {T : State} (X : Stand p l e R s m args below meth c T locs cells slots) (hexec : p.tables.exec = Jvm.exec) {xc : String} {index : Nat} {y : MethodName} {bytes : ByteArray} {maxL : Nat} {ret : Option FieldType}
    (hown : s.vm.findClass own = some m.cls) (hlink : (Jvm.Cond.methodLink own index ⟨xc, y.name, y.desc⟩).before args s = true) (hsame : (Jvm.Cond.sameMethod xc y.cls y.name y.desc).before args s = true) (hsup : (Jvm.Cond.superclass own xc).before args s = true) (hsup2 : (Jvm.Cond.superclass xc y.cls).before args s = true)
    (hinst : (Jvm.Cond.instanceMethod y).before args s = true) (hcode : (Jvm.Cond.code y bytes maxL ret).before args s = true) (hno : y.name ≠ "<init>")
    {W : Nat} {Pre : Pt → Array Value → Prop} {Post : Pt → Array Value → Option Value → Pt → Prop} (hK : Back l R p e below s args y 3 W Pre Post)
    {b : Addr} {cellB : Cell} {kB : Class} (hcell : T.heap[b]? = some cellB) (hobj : cellB.vm.isStatics = false) (hkB : s.vm.classes[cellB.cls]? = some kB)
    {g : JFrame} (hg : g.method = m) (hsize : g.locals.size = c.maxLocals) {argsL rest : List Value} (hlen : ∀ sig, parseMethodDescriptor y.desc = some sig → argsL.length = sig.parameters.length)
    (hstack : g.stack = argsL.reverse ++ .ref b :: rest) (hW : 2 * g.monitorRoom + (rest.map fun v => v.category).sum ≤ W) (hdg : decode c.code g.pc = .ok (.invokespecial index, 3))
    (hpre : ∀ vm₁, s.WarmedH vm₁ → Pre ⟨T.setVm vm₁, locs, cells, slots⟩ (Value.ref b :: argsL).toArray) :
    ∃ (v : Option Value) (vm₁ : Vm) (B : Pt), s.WarmedH vm₁ ∧ Stand p l e R s m args below meth c B.U B.locs B.cells B.slots ∧ Post ⟨T.setVm vm₁, locs, cells, slots⟩ (Value.ref b :: argsL).toArray v B ∧
      ∀ target, Steps p.tables e below (B.U.setTop { g with pc := g.pc + 3, stack := v.toList ++ rest }) target → Steps p.tables e below (T.setTop g) target := by
  obtain ⟨mk, methM, hnamed, hmethM, hstM, habM⟩ := Cond.instanceMethod_spec hinst
  obtain ⟨methM', cM, hmethM', -, -, -, -, -, -, hsigM⟩ := Cond.code_spec hnamed hcode
  cases hmethM.symm.trans hmethM'
  obtain ⟨ps, dk, kp, hps, hdk, hkp, hsuper, -, -, hnid⟩ := Cond.superclass_spec hown hsup
  obtain ⟨ps2, dk2, kp2, hps2, hdk2, hkp2, hsuper2, -, -, -⟩ := Cond.superclass_spec hps hsup2
  have hn : s.methodNamed? ⟨y.cls, y.name, y.desc⟩ = some mk := hnamed
  have hpm : ps2 = mk.cls := Option.some.inj (hps2.symm.trans (findClass_of_methodNamed hnamed))
  have hsub : s.vm.isSubclass ps mk.cls = true := by rw [← hpm]; exact s_isSub hdk2 hsuper2
  obtain ⟨vm₁, X₁, hstep₁⟩ := X.invokespecialUp (x := ⟨xc, y.name, y.desc⟩) hexec hown hlink hsame hn hmethM hstM habM hno hdk hnid hps hsuper hsub (a := b) (cell := cellB) hcell
    (fun z h => by rw [h] at hobj; cases hobj) hkB (g := g) hg (argsL := argsL) (rest := rest) (hlen _ hsigM) hstack hdg
  obtain ⟨v, B, X', hpost, hsteps⟩ := hK m meth c ⟨T.setVm vm₁, locs, cells, slots⟩ { g with stack := rest } (.invokespecial index) mk (Value.ref b :: argsL).toArray X₁ hg hsize hdg hW (X₁.named hnamed) (hpre vm₁ X₁.warmed)
  exact ⟨v, vm₁, B, X₁.warmed, X', hpost, fun target h => hstep₁ _ (by rw [doInvoke_state]; exact hsteps.trans h)⟩
theorem s_runSU2 {y : MethodName} {bytes : ByteArray} {maxL mc ms n index : Nat} {ret : Option FieldType} {ws : List Jvm.Cond} {rm : Room} {Pc : Array Value → State → Prop} {Qc : Array Value → State → Outcome → State → Prop} {free : Addr → Prop} {Ts : List Jvm.Cond} {xc C : String} {cC : ClassId} {b : Addr} {As rest : List Value} {g : JFrame}
    (hat : ClassAt s C cC) (S : CallFix p m c cc nL s args Ts own) (hM : Met l y ws rm Pc Qc mc ms free) (hTs : GoodIn Ts ([.methodLink own index ⟨xc, y.name, y.desc⟩, .sameMethod xc y.cls y.name y.desc, .superclass own xc, .superclass xc y.cls, .instanceMethod y, .initialized y.cls] ++ ws)) (hcw : Jvm.Cond.code y bytes maxL ret ∈ ws) (hrc : rm.cells = mc) (hrs : rm.slots = ms) (hd : y.name ≠ "<init>" ∧ (parseMethodDescriptor y.desc).map (fun d => d.parameters.length) = some n) (hR : rm.frames + 1 ≤ R.frames ∧ 8 + (maxL + 11) + rm.locals ≤ R.locals) (hp : PreV s H C b Pc As)
    (hg : g.method = m) (hn : As.length = n) (hsize : g.locals.size = nL) (hstack : g.stack = As.reverse ++ .ref b :: rest) (hW : 2 * g.monitorRoom + (rest.map fun v => v.category).sum ≤ 8) (hdg : decode cc g.pc = .ok (.invokespecial index, 3)) (hf : cells + mc ≤ R.cells ∧ slots + ms ≤ R.slots) :
    va_Run p l e R s m args below meth c H locs cells slots mc ms g rest (Qc (Value.ref b :: As).toArray) (free) := by
  obtain ⟨hx, hb, hml, ho, ht⟩ := S
  have ok : ∀ w ∈ ([.methodLink own index ⟨xc, y.name, y.desc⟩, .sameMethod xc y.cls y.name y.desc, .superclass own xc, .superclass xc y.cls, .instanceMethod y, .initialized y.cls] : List Jvm.Cond) ++ ws, w.before args s = true := fun w h => ht w (hTs w h).1
  have hG : GoodIn Ts ws := fun w h => hTs w (List.mem_append_right _ h)
  have hini : (Jvm.Cond.initialized y.cls).before args s = true := ok _ (by simp)
  have hK : Back l R p e below s args y 3 8 (PreOf R mc ms Pc) (PostOf Qc mc ms free) := back_of (bytes := bytes) (maxL := maxL) (ret := ret) hM hp.1 hrc hrs hR.1 hR.2 (pay_in ht hG) hcw (fun a' U hW => word_at hW (Or.inl (by first | rfl | simp [Cond.onTables, Cond.keeps, Cond.steady])) hini)
  obtain ⟨-, ⟨cellB, hcB, hoB, hclB⟩, hPc⟩ := hp
  obtain ⟨hfc, kB, hkB, -⟩ := hat
  cases hfc.symm.trans hclB
  intro T hT X
  obtain ⟨v, vm₁, ⟨U', l2, c2, s2⟩, hW₁, X', ⟨g', mk, t, L, e1, e2, hq, h1, hL, h2, h3⟩, st⟩ := s_callSU2 X hx (xc := xc) (index := index) (bytes := bytes) (maxL := maxL) (ret := ret) ho (ok _ (by simp)) (ok _ (by simp)) (ok _ (by simp)) (ok _ (by simp)) (ok _ (by simp)) (ht _ (hG _ hcw).1) hd.1 hK (by rw [hT]; exact hcB) hoB hkB hg (hsize.trans hml.symm) (argsL := As) (rest := rest) (fun sig h => by
    have h2 := hd.2
    rw [h] at h2
    exact hn.trans (Option.some.inj h2).symm) hstack hW (by rw [hb]; exact hdg)
    (fun vm₁ hW₁ => ⟨hf.1, hf.2, hPc (T.setVm vm₁) hT hW₁⟩)
  dsimp only [Pt.U, Pt.locs, Pt.cells, Pt.slots] at X' e1 e2 h1 h2 h3 st
  subst h1; subst h2; subst h3
  exact ⟨v, (T.setVm vm₁).calling g' mk (Value.ref b :: As).toArray, t, U', L, hT, X', hL, e1, e2, hq, st⟩
theorem s_callUp2 (E : sEnv p s m c args cc nL base b D dA own) {h h' : sHp} (S : sSt base b D dA s h H locs) (hsl : ls.size = nL) (ac : s.heap.size + cells = base + h.length) {d idx o ci : Nat} {fs : List Value} (ho : h[o]? = some (.inr (ci, fs))) {z : sMt} {as rest : List Value} {r : Option Value} (hz : sChkM z = true) (h0 : mK z = 1) {xc : String} (hl : Jvm.Cond.methodLink own idx ⟨xc, (mY z).name, (mY z).desc⟩ ∈ sTB) (hl2 : Jvm.Cond.sameMethod xc (mY z).cls (mY z).name (mY z).desc ∈ sTB) (hl3 : Jvm.Cond.superclass own xc ∈ sTB) (hl4 : Jvm.Cond.superclass xc (mY z).cls ∈ sTB) (hM : sMet l base b D dA d z (.ref o :: as) h r h') (hn : as.length = mA z) (hcat : (rest.map (fun v => v.category)).sum ≤ 8)
    (hRf : d + 1 ≤ R.frames) (hRl : 39 * (d + 1) ≤ R.locals) (hc : cells + (h'.length - h.length) ≤ R.cells) (hs : slots + (sSl h' - sSl h) ≤ R.slots) (hl1 : h'.length ≤ 1000000) (hdg : decode cc pc = .ok (.invokespecial idx, 3))
    (kk : sNext p l e R s m args below meth c cells slots Q pc ls base b D dA h r h' rest) : W p l e R s m args below meth c H locs cells slots Q (F0 m pc ls (rS (sAd base b) (as.reverse ++ .ref o :: rest))) := by
  obtain ⟨hx, hb, hml, hown, hts, hK, hbs, hnw, hou⟩ := id E
  obtain ⟨f1, f2, f3, f4, f5, f6, f7, f8, f9, f10⟩ := sChkM_of hz
  obtain ⟨q, hq, hrc, hat⟩ := s_recv E S ho
  refine W_size fun hzz => ?_
  have hH := s_size S hbs ac hzz
  have hin : Jvm.Cond.instanceMethod (mY z) ∈ sTB := f4 (by rw [h0]; decide)
  have hroom : (sRm d (h'.length - h.length) (sSl h' - sSl h)).frames + 1 ≤ R.frames ∧ 8 + (mN z + 11) + (sRm d (h'.length - h.length) (sSl h' - sSl h)).locals ≤ R.locals := ⟨hRf, by show 8 + (mN z + 11) + 39 * d ≤ _; omega⟩
  have hst : rS (sAd base b) (as.reverse ++ .ref o :: rest) = (rS (sAd base b) as).reverse ++ .ref (sAd base b o) :: rS (sAd base b) rest := by rw [rS, List.map_append, List.map_reverse]; rfl
  have hr := s_runSU2 (p := p) (l := l) (e := e) (R := R) (below := below) (meth := meth) (locs := locs) (cells := cells) (slots := slots) (As := rS (sAd base b) as) (rest := rS (sAd base b) rest) (g := F0 m pc ls (rS (sAd base b) (as.reverse ++ .ref o :: rest))) hat ⟨hx, hb, hml, hown, hts⟩ hM (sTB_in (fun w hw => by
    rcases List.mem_append.mp hw with hw | hw
    · simp only [List.mem_cons, List.not_mem_nil, or_false] at hw
      rcases hw with rfl | rfl | rfl | rfl | rfl | rfl
      · exact hl
      · exact hl2
      · exact hl3
      · exact hl4
      · exact hin
      · exact f2
    · exact sWs_in hz w hw)) (List.mem_cons_self) rfl rfl ⟨f9 h0, f6.2.2⟩ hroom ⟨s_blind, hrc, s_pre E S hH _⟩ rfl (by rw [List.length_map]; exact hn) hsl hst (lv_room (by rw [rS_cat]; exact hcat)) hdg ⟨hc, hs⟩
  refine s_back hr S.2.1 fun H1 l1 P1 S1 => ?_
  rw [rS_back]
  exact kk H1 l1 ⟨P1, S1, hl1⟩
theorem s_callVirt (E : sEnv p s m c args cc nL base b D dA own) {h h' : sHp} (S : sSt base b D dA s h H locs) (hsl : ls.size = nL) (ac : s.heap.size + cells = base + h.length) {d idx o : Nat} {fs : List Value} {z : sMt} (ho : h[o]? = some (.inr (mI z, fs))) {as rest : List Value} {r : Option Value} (hz : sChkM z = true) (h0 : mK z = 1) (hl : Jvm.Cond.methodLink own idx (mY z) ∈ sTB) (hl2 : Jvm.Cond.selects (mY z).cls (mY z) (mY z) ∈ sTB) (hM : sMet l base b D dA d z (.ref o :: as) h r h') (hn : as.length = mA z) (hcat : (rest.map (fun v => v.category)).sum ≤ 8)
    (hRf : d + 1 ≤ R.frames) (hRl : 39 * (d + 1) ≤ R.locals) (hc : cells + (h'.length - h.length) ≤ R.cells) (hs : slots + (sSl h' - sSl h) ≤ R.slots) (hl1 : h'.length ≤ 1000000) (hdg : decode cc pc = .ok (.invokevirtual idx, 3))
    (kk : sNext p l e R s m args below meth c cells slots Q pc ls base b D dA h r h' rest) : W p l e R s m args below meth c H locs cells slots Q (F0 m pc ls (rS (sAd base b) (as.reverse ++ .ref o :: rest))) := by
  obtain ⟨hx, hb, hml, hown, hts, hK, hbs, hnw, hou⟩ := id E
  obtain ⟨f1, f2, f3, f4, f5, f6, f7, f8, f9, f10⟩ := sChkM_of hz
  obtain ⟨q, hq, hrc, hat⟩ := s_recv E S ho
  have hqc : q.1 = (mY z).cls := by
    have := f10 (by rw [h0]; decide)
    rw [hq] at this
    exact Option.some.inj this
  rw [hqc] at hrc
  refine W_size fun hzz => ?_
  have hH := s_size S hbs ac hzz
  have hin : Jvm.Cond.instanceMethod (mY z) ∈ sTB := f4 (by rw [h0]; decide)
  have hroom : (sRm d (h'.length - h.length) (sSl h' - sSl h)).frames + 1 ≤ R.frames ∧ 8 + (mN z + 11) + (sRm d (h'.length - h.length) (sSl h' - sSl h)).locals ≤ R.locals := ⟨hRf, by show 8 + (mN z + 11) + 39 * d ≤ _; omega⟩
  have hst : rS (sAd base b) (as.reverse ++ .ref o :: rest) = (rS (sAd base b) as).reverse ++ .ref (sAd base b o) :: rS (sAd base b) rest := by rw [rS, List.map_append, List.map_reverse]; rfl
  have hr := va_runV (p := p) (l := l) (e := e) (R := R) (below := below) (meth := meth) (locs := locs) (cells := cells) (slots := slots) (As := rS (sAd base b) as) (rest := rS (sAd base b) rest) (g := F0 m pc ls (rS (sAd base b) (as.reverse ++ .ref o :: rest))) ⟨hx, hb, hml, hown, hts⟩ hM (cwV (C := (mY z).cls) (mA z) hts (sTB_in (fun w hw => by
    rcases List.mem_append.mp hw with hw | hw
    · simp only [List.mem_cons, List.not_mem_nil, or_false] at hw
      rcases hw with rfl | rfl | rfl | rfl
      · exact hl
      · exact hin
      · exact hl2
      · exact f2
    · exact sWs_in hz w hw)) rfl rfl rfl ⟨rfl, f6⟩ hroom) ⟨s_blind, hrc, s_pre E S hH _⟩ rfl (by rw [List.length_map]; exact hn) hsl hst (lv_room (by rw [rS_cat]; exact hcat)) hdg ⟨hc, hs⟩
  refine s_back hr S.2.1 fun H1 l1 P1 S1 => ?_
  rw [rS_back]
  exact kk H1 l1 ⟨P1, S1, hl1⟩
theorem s_callFam (E : sEnv p s m c args cc nL base b D dA own) {h h' : sHp} (S : sSt base b D dA s h H locs) (hsl : ls.size = nL) (ac : s.heap.size + cells = base + h.length) {d idx o k ci : Nat} (hk1 : 1000 ≤ k) (hk2 : k < 1006) (hci : ci < 11) (hg : sGrp ci = 2) {fs : List Value} (ho : h[o]? = some (.inr (ci, fs))) {z : sMt} (hsz : sM (sVt k ci) = some z) {as rest : List Value} {r : Option Value} (hz : sChkM z = true) (hl : Jvm.Cond.methodLink own idx (sFx k) ∈ sTB) (hM : sMet l base b D dA d z (.ref o :: as) h r h') (hn : as.length = 1) (hcat : (rest.map (fun v => v.category)).sum ≤ 8)
    (hRf : d + 1 ≤ R.frames) (hRl : 39 * (d + 1) ≤ R.locals) (hc : cells + (h'.length - h.length) ≤ R.cells) (hs : slots + (sSl h' - sSl h) ≤ R.slots) (hl1 : h'.length ≤ 1000000) (hdg : decode cc pc = .ok (.invokevirtual idx, 3))
    (kk : sNext p l e R s m args below meth c cells slots Q pc ls base b D dA h r h' rest) : W p l e R s m args below meth c H locs cells slots Q (F0 m pc ls (rS (sAd base b) (as.reverse ++ .ref o :: rest))) := by
  obtain ⟨hx, hb, hml, hown, hts, hK, hbs, hnw, hou⟩ := id E
  obtain ⟨z', zx, e1, a1, a2, h0, a4, w1, w2, w3, w4⟩ := sFam_of hk1 hk2 hci hg
  cases hsz.symm.trans e1
  obtain ⟨f1, f2, f3, f4, f5, f6, f7, f8, f9, f10⟩ := sChkM_of hz
  obtain ⟨q, hq, hrc, hat⟩ := s_recv E S ho
  have hqc : q.1 = sCN ci := by unfold sCN; rw [hq]
  rw [hqc] at hrc
  refine W_size fun hzz => ?_
  have hH := s_size S hbs ac hzz
  have hin : Jvm.Cond.instanceMethod (mY z) ∈ sTB := f4 (by rw [h0]; decide)
  have hroom : (sRm d (h'.length - h.length) (sSl h' - sSl h)).frames + 1 ≤ R.frames ∧ 8 + (mN z + 11) + (sRm d (h'.length - h.length) (sSl h' - sSl h)).locals ≤ R.locals := ⟨hRf, by show 8 + (mN z + 11) + 39 * d ≤ _; omega⟩
  have hst : rS (sAd base b) (as.reverse ++ .ref o :: rest) = (rS (sAd base b) as).reverse ++ .ref (sAd base b o) :: rS (sAd base b) rest := by rw [rS, List.map_append, List.map_reverse]; rfl
  have hr := va_runU (p := p) (l := l) (e := e) (R := R) (below := below) (meth := meth) (locs := locs) (cells := cells) (slots := slots) (As := rS (sAd base b) as) (rest := rS (sAd base b) rest) (g := F0 m pc ls (rS (sAd base b) (as.reverse ++ .ref o :: rest))) ⟨hx, hb, hml, hown, hts⟩ hM (va_cwO (C := sCN ci) (owner := RX2) (x := sFx k) 1 hts (sTB_in (fun w hw => by
    rcases List.mem_append.mp hw with hw | hw
    · simp only [List.mem_cons, List.not_mem_nil, or_false] at hw
      rcases hw with rfl | rfl | rfl | rfl | rfl | rfl
      · exact hl
      · exact w1
      · exact w2
      · exact w3
      · exact hin
      · exact f2
    · exact sWs_in hz w hw)) rfl rfl rfl w4 ⟨by decide, by decide, a4⟩ hroom) ⟨s_blind, hrc, s_pre E S hH _⟩ rfl (by rw [List.length_map]; exact hn) hsl hst (lv_room (by rw [rS_cat]; exact hcat)) hdg ⟨hc, hs⟩
  refine s_back hr S.2.1 fun H1 l1 P1 S1 => ?_
  rw [rS_back]
  exact kk H1 l1 ⟨P1, S1, hl1⟩
end RUN
end
section
/-! ===== new int[5][6] ===== -/
section MNA
def sOut (cA : ClassId) (h0 i : Nat) : Cell := arrV cA 5 (fun j => va_rf (if j < i then some (h0 + 1 + j) else none))
def sInn (cB : ClassId) : Cell := arrV cB 6 (fun _ => .int 0)
def sFil (T : State) (cA cB : ClassId) : Nat → State
  | 0 => T.pushCell (sOut cA T.heap.size 0)
  | i + 1 => ((sFil T cA cB i).pushCell (sInn cB)).setCell T.heap.size (sOut cA T.heap.size (i + 1))
theorem sOut_next (cA : ClassId) (h0 i : Nat) : (sOut cA h0 i).setSlot i (.ref (h0 + 1 + i)) = sOut cA h0 (i + 1) := by
  unfold sOut
  rw [arrV_store]
  refine congrArg (arrV cA 5) (funext fun j => ?_)
  unfold updV
  by_cases e : j = i
  · subst e
    rw [if_pos rfl, if_pos (Nat.lt_succ_self j)]
    rfl
  · rw [if_neg e]
    dsimp only
    by_cases h : j < i
    · rw [if_pos h, if_pos (by omega)]
    · rw [if_neg h, if_neg (by omega)]
theorem sFil_facts (T : State) (cA cB : ClassId) : ∀ i, (sFil T cA cB i).heap.size = T.heap.size + 1 + i ∧ (sFil T cA cB i).heap[T.heap.size]? = some (sOut cA T.heap.size i) ∧ (sFil T cA cB i).vm = T.vm ∧ (sFil T cA cB i).slotsUsed = T.slotsUsed + 5 + 6 * i ∧ (∀ a, a < T.heap.size → (sFil T cA cB i).heap[a]? = T.heap[a]?) ∧ ∀ j, j < i → (sFil T cA cB i).heap[T.heap.size + 1 + j]? = some (sInn cB)
  | 0 => ⟨by simp [sFil], by simp [sFil], rfl, by simp [sFil, sOut, arrV_size], fun a ha => State.heap_pushCell_of_lt _ _ ha, fun j h => absurd h (Nat.not_lt_zero _)⟩
  | i + 1 => by
    obtain ⟨f1, f2, f3, f4, f5, f6⟩ := sFil_facts T cA cB i
    have hlt : T.heap.size < (sFil T cA cB i).heap.size := by omega
    have hb : ((sFil T cA cB i).pushCell (sInn cB)).heap[T.heap.size]? = some (sOut cA T.heap.size i) := by rw [State.heap_pushCell_of_lt (h := hlt)]; exact f2
    refine ⟨?_, State.heap_setCell_self hb, by simp [sFil, f3], ?_, fun a ha => ?_, fun j hj => ?_⟩
    · simp [sFil, State.setCell, f1]; omega
    · simp [sFil, f4, sInn, arrV_size]; omega
    · show (((sFil T cA cB i).pushCell (sInn cB)).setCell T.heap.size _).heap[a]? = _
      rw [State.heap_setCell_other (Nat.ne_of_gt ha), State.heap_pushCell_of_lt (h := Nat.lt_trans ha hlt)]
      exact f5 a ha
    · show (((sFil T cA cB i).pushCell (sInn cB)).setCell T.heap.size _).heap[T.heap.size + 1 + j]? = _
      rw [State.heap_setCell_other (show T.heap.size ≠ T.heap.size + 1 + j by omega)]
      rcases Nat.lt_or_ge j i with h | h
      · rw [State.heap_pushCell_of_lt (h := show T.heap.size + 1 + j < (sFil T cA cB i).heap.size by omega)]
        exact f6 j h
      · have e : T.heap.size + 1 + j = (sFil T cA cB i).heap.size := by omega
        rw [e]
        exact State.heap_pushCell_size _ _
theorem sFil_top (T : State) (f : JFrame) (cA cB : ClassId) : ∀ i, sFil (T.setTop f) cA cB i = (sFil T cA cB i).setTop f
  | 0 => rfl
  | i + 1 => by simp only [sFil, sFil_top T f cA cB i, State.heap_setTop, State.pushCell_setTop, State.setCell_setTop]
variable {p : Program} {l : Launch} {e : Env} {R : Room} {s : State} {m : MethodId} {args : Array Value} {below : List Frame} {meth : Method} {c : Code} {T : State} {H : Heap} {locs : List Loc} {cells slots : Nat} {Q : State → Prop}
theorem sFil_stand (X : Stand p l e R s m args below meth c T locs cells slots) (cA cB : ClassId) : ∀ i, ∃ L : List Loc, (∀ q ∈ L, q.base = T.heap.size) ∧ Stand p l e R s m args below meth c (sFil T cA cB i) (locs ++ L) (cells + 1 + i) (slots + 5 + 6 * i)
  | 0 => by
    have h := X.pushed (sOut cA T.heap.size 0)
    rw [show (sOut cA T.heap.size 0).slots.size = 5 from arrV_size _ _ _] at h
    exact ⟨[], (fun q hq => by cases hq), by rw [List.append_nil]; exact h⟩
  | i + 1 => by
    obtain ⟨L, hL, Xi⟩ := sFil_stand X cA cB i
    obtain ⟨f1, f2, -⟩ := sFil_facts T cA cB i
    have hlt : T.heap.size < (sFil T cA cB i).heap.size := by omega
    have hb : ((sFil T cA cB i).pushCell (sInn cB)).heap[T.heap.size]? = some (sOut cA T.heap.size i) := by rw [State.heap_pushCell_of_lt (h := hlt)]; exact f2
    have h := (Xi.pushed (sInn cB)).stored hb i (.ref (T.heap.size + 1 + i))
    rw [show (sInn cB).slots.size = 6 from arrV_size _ _ _, sOut_next] at h
    refine ⟨L ++ [⟨T.heap.size, i⟩], fun q hq => ?_, ?_⟩
    · rcases List.mem_append.mp hq with h | h
      · exact hL q h
      · rw [List.mem_singleton.mp h]
    · rw [← List.append_assoc, show slots + 5 + 6 * (i + 1) = slots + 5 + 6 * i + 6 by omega]
      exact h
section WPN
variable {E : CtlPost} {d : Bool} {acts : List Action} {t : State}
theorem s_wpNew {cX comp : ClassId} {k : Class} {type : FieldType} {len : Nat} {init : Value} (hk : t.vm.classes[cX]? = some k) (hkind : k.kind = .array comp type) (hlimit : ¬ len > e.platform.arrayLengthLimit) (hheap : ¬ len * componentBytes type > e.platform.maxHeapBytes) (hfit : fits type init = true) (hdef : init.isDefault = true) {Qa : Addr → Pre} (h1 : t.heap.size < e.platform.maxCells) (h2 : t.slotsUsed + len ≤ e.platform.maxSlots)
    (hq : Qa t.heap.size d acts (t.pushCell (arrV cX len (fun _ => init)))) : wp (Jvm.newArray cX len init) Qa E e d acts t := by
  rw [← arrV_new] at hq
  have hfits : ∀ i v, (Array.replicate len init)[i]? = some v → t.fitsSlot cX .none i v = true := by
    intro i v hv
    rw [Array.getElem?_replicate] at hv
    split at hv
    · cases hv
      simp [State.fitsSlot, State.slotType?, hk, hkind, hfit]
    · cases hv
  have hall : ((Array.replicate len init).all (·.isDefault)) = true := by
    rw [Array.all_replicate]
    split <;> simp [hdef]
  have hda : allocActs (Array.replicate len init) t.heap.size acts = acts := by
    unfold allocActs
    rw [if_pos hall]
  simp only [Jvm.newArray, Jvm.arrayFits, wp_bind', W.ask, W.ite, hlimit, if_false, wp_pure', W.theClass, hk, hkind, hheap, W.alloc, W.stop, Option.some.injEq, exists_eq_left', Array.size_replicate, hda]
  rw [if_neg (by omega)]
  exact ⟨h1, h2, hfits, hq⟩
theorem s_wpMake {cA cB cI : ClassId} {kA kB : Class} (hkA : t.vm.classes[cA]? = some kA) (hkindA : kA.kind = .array cB (.array .int)) (hkB : t.vm.classes[cB]? = some kB) (hkindB : kB.kind = .array cI .int)
    (hl1 : ¬ 5 > e.platform.arrayLengthLimit) (hh1 : ¬ 5 * componentBytes (.array .int) > e.platform.maxHeapBytes) (hl2 : ¬ 6 > e.platform.arrayLengthLimit) (hh2 : ¬ 6 * componentBytes .int > e.platform.maxHeapBytes)
    (hc : t.heap.size + 6 ≤ e.platform.maxCells) (hs : t.slotsUsed + 35 ≤ e.platform.maxSlots) {Qa : Addr → Pre} (hq : ∀ d' acts', Qa t.heap.size d' acts' (sFil t cA cB 5)) : wp (multianewarray.make cA [5, 6]) Qa E e d acts t := by
  have n5 : ¬ (5 : Int32) < 0 := by decide
  have n6 : ¬ (6 : Int32) < 0 := by decide
  have c5 : (5 : Int32).toNatClampNeg = 5 := by decide
  have c6 : (6 : Int32).toNatClampNeg = 6 := by decide
  have hfind : (([6] : List Int32).find? (· < 0)) = none := by simp [n6]
  have href : ∀ v : Value, (v = .null ∨ ∃ a, v = .ref a) → fits (.array .int) v = true := by
    rintro v (rfl | ⟨a, rfl⟩) <;> rfl
  rw [multianewarray.make]
  simp only [wp_bind', W.ite, n5, if_false, wp_pure', W.theClass, hkA, hkindA, Option.some.injEq, exists_eq_left', c5]
  refine s_wpNew hkA hkindA hl1 hh1 rfl rfl (by omega) (by omega) ?_
  simp only [hfind]
  rw [ite_self, wp_bind', Std.Legacy.Range.forIn_eq_forIn_range']
  have hsz : ([:5] : Std.Legacy.Range).size = 5 := by simp [Std.Legacy.Range.size]
  rw [hsz]
  show wp (forIn (List.range' 0 5 1) PUnit.unit _) _ E e d acts _
  refine wp_forIn_inv (fun rest t' => ∃ i, i ≤ 5 ∧ rest = List.range' i (5 - i) ∧ t' = sFil t cA cB i) _ _ ⟨0, Nat.zero_le _, rfl, rfl⟩ ?_ ?_
  · rintro x rest t' d' acts' Q' ⟨i, hi, hl, rfl⟩ hnext
    have hlt : i < 5 := by
      rcases Nat.lt_or_ge i 5 with h | h
      · exact h
      · rw [show 5 - i = 0 by omega] at hl; cases hl
    rw [show 5 - i = (5 - (i + 1)) + 1 by omega, List.range'_succ] at hl
    obtain ⟨rfl, rfl⟩ := List.cons.inj hl
    obtain ⟨f1, f2, f3, f4, -⟩ := sFil_facts t cA cB x
    rw [multianewarray.make]
    simp only [wp_bind', W.ite, n6, if_false, wp_pure', W.theClass, f3, hkB, hkindB, Option.some.injEq, exists_eq_left', c6]
    refine s_wpNew (by rw [f3]; exact hkB) hkindB hl2 hh2 rfl rfl (by omega) (by omega) ?_
    have hlt0 : t.heap.size < (sFil t cA cB x).heap.size := by omega
    simp only [wp_bind', W.writeLoc, wp_pure']
    refine ⟨sOut cA t.heap.size x, by rw [State.heap_pushCell_of_lt (h := hlt0)]; exact f2, (fun q => by cases q), by rw [show (sOut cA t.heap.size x).slots.size = 5 from arrV_size _ _ _]; exact hlt, ?_, hnext _ _ _ ⟨x + 1, hlt, rfl, ?_⟩⟩
    · show (_ : State).fitsSlot cA .none x _ = true
      simp [State.fitsSlot, State.slotType?, f3, hkA, hkindA, href _ (Or.inr ⟨_, rfl⟩)]
    · rw [f1, sOut_next]
      rfl
  · rintro t' d' acts' ⟨i, hi, hl, rfl⟩
    have hiN : i = 5 := by
      rcases Nat.lt_or_ge i 5 with h | h
      · rw [show 5 - i = (5 - (i + 1)) + 1 by omega, List.range'_succ] at hl; cases hl
      · omega
    subst hiN
    simp only [wp_pure']
    exact hq _ _
end WPN
end MNA
end
section
/-! ===== length and charAt of the words ===== -/
def sQl : sMt := (Jvm.Lib.Str.length.name, Jvm.Lib.String.length.code, 1, some .int, 1, 99, 0, [], [])
def sQc : sMt := (Jvm.Lib.Str.charAt.name, Jvm.Lib.Str.charAt.code, 2, some .char, 1, 99, 1, [], [])
theorem s_StaticIs {C n d : String} {v : Value} {A : Nat → Prop} {U : State} (h : va_Z C n d v A U U.heap) : Jvm.Lib.Cold.StaticIs U C n d v := by
  obtain ⟨cf, kf, fi, f, a, cell, h1, h2, h3, h4, h5, h6, h7, -⟩ := h
  exact ⟨cf, fi, kf, f, a, cell, h1, h2, h3, h4, h5, (fun z => by rw [z] at h6; cases h6), h7⟩
theorem s_Sig {args : Array Value} {s : State} {y : MethodName} {cc : ByteArray} {n : Nat} {ret : Option FieldType} {mk : MethodId} (hn : s.methodNamed? y = some mk) (h : (Jvm.Cond.code y cc n ret).before args s = true) : Jvm.Lib.Cold.Sig s y := by
  obtain ⟨meth, c, h1, -, -, -, -, -, -, h8⟩ := Cond.code_spec hn h
  exact ⟨mk, meth, hn, h1, h8⟩
theorem s_declares {args : Array Value} {s : State} {y : MethodName} {cc : ByteArray} {n : Nat} {ret : Option FieldType} (h1 : (Jvm.Cond.instanceMethod y).before args s = true) (h2 : (Jvm.Cond.code y cc n ret).before args s = true) : (Jvm.Cond.declares y).before args s = true ∧ Jvm.Lib.Cold.Sig s y := by
  obtain ⟨mk, meth, a1, a2, a3, -⟩ := Cond.instanceMethod_spec h1
  obtain ⟨meth', c, b1, -, -, -, -, -, -, b8⟩ := Cond.code_spec a1 h2
  cases a2.symm.trans b1
  refine ⟨?_, mk, meth, a1, a2, b8⟩
  simp [Cond.before, Cond.holds, Cond.value, a1, a2, a3, b8]
theorem s_static {args : Array Value} {s : State} {y : MethodName} {cc : ByteArray} {n : Nat} {ret : Option FieldType} (h1 : (Jvm.Cond.static y).before args s = true) (h2 : (Jvm.Cond.code y cc n ret).before args s = true) : Jvm.Lib.Cold.Sig s y := by
  cases hn : s.methodNamed? y with
  | none => simp [Cond.before, Cond.holds, Cond.value, hn] at h1
  | some mk => exact s_Sig hn h2
theorem s_room0 {s : State} {pl : Platform} {r r' : Room} (h : s.hasRoom pl r' = true) (h1 : r.frames ≤ r'.frames) (h2 : r.locals ≤ r'.locals) (h3 : r.cells ≤ r'.cells) (h4 : r.slots ≤ r'.slots) : s.hasRoom pl r = true := by
  simp only [State.hasRoom, Bool.and_eq_true, decide_eq_true_eq] at h ⊢
  obtain ⟨⟨⟨⟨a0, a1, a2, a3, a4, a6⟩, a7⟩, a8⟩, a9⟩ := h
  exact ⟨⟨⟨⟨by omega, by omega, by omega, by omega, by omega, a6⟩, by omega⟩, by omega⟩, a9⟩
theorem s_new0 {s u : State} (h : s.sameBut u []) : u.heap = s.heap ∧ s.sameButNew u [] 0 0 := by
  have h0 := State.sameBut_nil.mp h
  have e1 : u.heap = s.heap := (congrArg State.heap h0).trans rfl
  have e2 : u.slotsUsed = s.slotsUsed := (congrArg State.slotsUsed h0).trans rfl
  have e3 : (u.heap.toList.drop s.heap.size).map (fun c => c.slots.size) = [] := by
    rw [e1, List.drop_of_length_le (by simp)]; rfl
  refine ⟨e1, ?_, by rw [e1]; exact Nat.le_refl _, by rw [e1]; exact Nat.le_refl _, ?_, ?_, fun a c hc => ⟨c, by rw [e1]; exact hc, rfl, rfl, fun _ _ => rfl⟩⟩
  · rw [← h0]
  · rw [e2]
    show s.slotsUsed = s.slotsUsed + ((u.heap.toList.drop s.heap.size).map (fun c => c.slots.size)).sum
    rw [e3]; rfl
  · show ((u.heap.toList.drop s.heap.size).map (fun c => c.slots.size)).sum ≤ 0
    rw [e3]; exact Nat.le_refl _
/-- what such a pure call leaves -/
theorem s_pure_end {base : Nat} {b : Nat → Nat} {D : va_G} {dA : Nat → ClassId} {h : sHp} {a : Array Value} {s t : State} {o : Outcome} {v : Value} (hP : va_P D vwCl (rW (sAd base b) dA h) s.heap) (hv : rV (sAd base b) v = v) (q : Jvm.Free.PureEnd s o t) (ho : o = .returned (some v)) : sQ base b D dA (some v) h a s o t ∧ ∃ L, Jvm.Free.FrameEnd s o t L (h.length - h.length) (sSl h - sSl h) ∧ ∀ q ∈ L, base ≤ q.base := by
  obtain ⟨q1, q2, q3⟩ := q
  obtain ⟨e1, e2⟩ := s_new0 q3
  have e1 : t.heap = s.heap := e1
  refine ⟨⟨⟨by rw [ho]; show _ = Outcome.returned (some (rV (sAd base b) v)); rw [hv], by rw [e1]; exact hP⟩, by rw [e1]; exact Nat.le_refl _, fun q _ _ => by rw [e1]⟩, [], ⟨q1, q2, by rw [Nat.sub_self, Nat.sub_self]; exact e2⟩, fun q hq => by cases hq⟩
theorem sAd_out {base i : Nat} {b : Nat → Nat} : rV (sAd base b) (.ref (2000000 + i)) = .ref (b (2000000 + i)) := by
  show Value.ref (sAd base b (2000000 + i)) = _
  unfold sAd
  rw [if_pos (by omega)]
section STR
variable {l : Launch} {base : Nat} {b : Nat → Nat} {D : va_G} {dA : Nat → ClassId}
theorem s_metLen {d i : Nat} (hd : 1 ≤ d) (hi : i < 7) (h : sHp) : sMet l base b D dA d sQl [.ref (2000000 + i)] h (some (.int (Int32.ofNat (sTxL.getD i 0)))) h := by
  intro p e ha hc hk s m args below hf happ hP _
  obtain ⟨hargs, hsz, hPw, hK, hN, hou⟩ := hP
  have hargs : args = #[.ref (b (2000000 + i))] := by
    rw [hargs]
    show [rV (sAd base b) (.ref (2000000 + i))].toArray = _
    rw [sAd_out]
  subst hargs
  obtain ⟨h1, ⟨adV, h2⟩, h3, fmt, h5, h4⟩ := hou
  obtain ⟨x1, x2, x3, cell, t1, t2, t3, t4, t5, t6, t7⟩ := h2 i hi
  obtain ⟨c1, c2, c3, c4, c5, c6, c7, c8⟩ := (Spec.appliesLoose_iff hf).mp happ
  have hts : ∀ w ∈ sWs sQl, w.before #[.ref (b (2000000 + i))] s = true := atoms_spec (ws := sWs sQl) c8
  have w : ∀ (p : Nat) {w : Jvm.Cond}, sW p = some w → w.before #[.ref (b (2000000 + i))] s = true := fun p w hw => hts w (List.mem_cons_of_mem _ (sW_in hw))
  have ht : (Jvm.Term.arg 0).eval #[.ref (b (2000000 + i))] s none [] s = some (.ref (b (2000000 + i))) := rfl
  have hcode : (Jvm.Cond.code Jvm.Lib.String.coder.name Jvm.Lib.String.coder.code 1 (some .byte)).before #[.ref (b (2000000 + i))] s = true := w 3141 (by decide +kernel)
  have hins : (Jvm.Cond.instanceMethod Jvm.Lib.String.coder.name).before #[.ref (b (2000000 + i))] s = true := w 3139 (by decide +kernel)
  obtain ⟨hdec, hsig⟩ := s_declares hins hcode
  have hpre : Jvm.Lib.Cold.length.spec.pre.before #[.ref (b (2000000 + i))] s = true := by
    simp only [Jvm.Lib.Cold.length.spec, Cond.before_and, Bool.and_eq_true]
    exact ⟨hts _ List.mem_cons_self, rfl, sEx_ex ht x1, w 7157 (by decide +kernel), w 3138 (by decide +kernel), hdec, w 3140 (by decide +kernel), hins, w 1017 (by decide +kernel)⟩
  obtain ⟨n, o, r1, r2, r3, hQ⟩ := Jvm.Lib.Cold.length.met l (b (2000000 + i)) (adV i) 1 cell p e ha hc hk s m #[.ref (b (2000000 + i))] below hf
    ((Spec.appliesLoose_iff hf).mpr ⟨c1, c2, c3, c4, c5, c6, s_room0 c7 (by show 1 ≤ d; exact hd) (by show 24 ≤ 39 * d; omega) (Nat.zero_le _) (Nat.zero_le _), hpre⟩)
    ⟨rfl, sFd_ev ht x3, t1, t2, by
      simp only [Jvm.Lib.Cold.coder.spec, Cond.before_and, Bool.and_eq_true]
      exact ⟨hcode, rfl, w 3142 (by decide +kernel), w 7158 (by decide +kernel)⟩, rfl, s_StaticIs h3, by decide, sFd_ev ht x2⟩ trivial
  refine ⟨n, o, r1, r2, r3, ?_⟩
  obtain ⟨q1, q2⟩ := hQ
  rw [t5] at q2
  exact s_pure_end hPw rfl q1 q2
theorem sTxC_ch : ∀ i : Nat, i < 7 → ∀ j : Nat, j < 5 → ((sTxC i j &&& 255).toUInt32.toUInt16.toUInt32.toInt32) = sTxC i j := by decide +kernel
theorem sTxL_5 : ∀ i : Nat, i < 7 → sTxL.getD i 0 ≤ 5 := by decide +kernel
theorem s_metCh {d i : Nat} (hd : 3 ≤ d) (hi : i < 7) {x : Int32} (hx : ¬ (x < 0 ∨ sTxL.getD i 0 ≤ x.toNatClampNeg)) (h : sHp) : sMet l base b D dA d sQc [.ref (2000000 + i), .int x] h (some (.int (sTxC i x.toNatClampNeg))) h := by
  intro p e ha hc hk s m args below hf happ hP _
  obtain ⟨hargs, hsz, hPw, hK, hN, hou⟩ := hP
  have hargs : args = #[.ref (b (2000000 + i)), .int x] := by
    rw [hargs]
    show [rV (sAd base b) (.ref (2000000 + i)), .int x].toArray = _
    rw [sAd_out]
  subst hargs
  obtain ⟨h1, ⟨adV, h2⟩, h3, fmt, h5, h4⟩ := hou
  obtain ⟨x1, x2, x3, cell, t1, t2, t3, t4, t5, t6, t7⟩ := h2 i hi
  obtain ⟨c1, c2, c3, c4, c5, c6, c7, c8⟩ := (Spec.appliesLoose_iff hf).mp happ
  have hts : ∀ w ∈ sWs sQc, w.before #[.ref (b (2000000 + i)), .int x] s = true := atoms_spec (ws := sWs sQc) c8
  have w : ∀ (p : Nat) (a' : Array Value) {w : Jvm.Cond}, sW p = some w → w.before a' s = true := fun p a' w hw => pay_in (big := sTB) (ws := sTB) (args := #[.ref (b (2000000 + i)), .int x]) (fun w h => hts w (List.mem_cons_of_mem _ h)) (sTB_in (fun w h => h)) w (sW_in hw) a' s (State.WarmedH.refl s)
  have ht : ∀ vs : List Value, (Jvm.Term.arg 0).eval (Value.ref (b (2000000 + i)) :: vs).toArray s none [] s = some (.ref (b (2000000 + i))) := fun vs => rfl
  have lt5 := sTxL_5 i hi
  have xlt : x.toNatClampNeg < sTxL.getD i 0 := by omega
  have hIL : (Jvm.Cond.instanceMethod Jvm.Lib.Str.isLatin1.name).before #[] s = true := w 3152 _ (by decide +kernel)
  have hILc : (Jvm.Cond.code Jvm.Lib.Str.isLatin1.name Jvm.Lib.String.isLatin1.code 1 (some .boolean)).before #[] s = true := w 3154 _ (by decide +kernel)
  obtain ⟨hdec0, hsig0⟩ := s_declares hIL hILc
  have hdec : (Jvm.Cond.declares Jvm.Lib.Str.isLatin1.name).before #[.ref (b (2000000 + i)), .int x] s = true := by
    simpa only [Cond.before, Cond.holds, Cond.value] using hdec0
  have hpre : Jvm.Lib.Cold.charAt.spec.pre.before #[.ref (b (2000000 + i)), .int x] s = true := by
    simp only [Jvm.Lib.Cold.charAt.spec, Cond.before_and, Bool.and_eq_true]
    exact ⟨hts _ List.mem_cons_self, rfl, sEx_ex (ht [.int x]) x1, w 3151 _ (by decide +kernel), hdec, w 3153 _ (by decide +kernel), w 3152 _ (by decide +kernel), w 7157 _ (by decide +kernel), w 3155 _ (by decide +kernel), w 3156 _ (by decide +kernel), w 1018 _ (by decide +kernel), w 1017 _ (by decide +kernel)⟩
  have hsz2 : cell.slots.size.toInt32 = Int32.ofNat (sTxL.getD i 0) := t5
  have hPC : Jvm.Lib.Preconditions.checkIndex.spec.pre.before #[.int x, .int cell.slots.size.toInt32, fmt] s = true := by
    rw [hsz2]
    have e0 : (0 : Int32).toInt = 0 := rfl
    have g1 : ¬ x.toInt < 0 := fun z => hx (Or.inl (Int32.lt_iff_toInt_lt.mpr z))
    have g2 : (x.toNatClampNeg : Int) = x.toInt := by
      show ((x.toInt.toNat : Nat) : Int) = x.toInt
      omega
    have k1 : (0 : Int32) ≤ x := Int32.le_iff_toInt_le.mpr (by omega)
    have k2 : x < Int32.ofNat (sTxL.getD i 0) := Int32.lt_iff_toInt_lt.mpr (by rw [Int32.toInt_ofNat_of_lt (by omega)]; omega)
    simp only [Jvm.Lib.Preconditions.checkIndex.spec, Cond.before_and, Bool.and_eq_true]
    refine ⟨w 3164 _ (by decide +kernel), rfl, ?_, ?_, ?_, ?_, ?_⟩
    · simp [Cond.before, Cond.holds, Cond.value, Term.eval]
    · simp [Cond.before, Cond.holds, Cond.value, Term.eval]
    · simp [Cond.before, Cond.holds, Cond.value, Term.eval]
      cases fmt <;> first | rfl | cases h5
    · simp [Cond.before, Cond.holds, Cond.value, Term.eval, k1]
    · generalize Int32.ofNat (sTxL.getD i 0) = n at k2 ⊢
      simp [Cond.before, Cond.holds, Cond.value, Term.eval, k2]
  obtain ⟨n, o, r1, r2, r3, hQ⟩ := Jvm.Lib.Cold.charAt.met l (b (2000000 + i)) (adV i) x (sTxC i x.toNatClampNeg) 1 fmt cell p e ha hc hk s m #[.ref (b (2000000 + i)), .int x] below hf
    ((Spec.appliesLoose_iff hf).mpr ⟨c1, c2, c3, c4, c5, c6, s_room0 c7 (by show 3 ≤ d; exact hd) (by show 72 ≤ 39 * d; omega) (Nat.zero_le _) (Nat.zero_le _), hpre⟩)
    ⟨rfl, sFd_ev (ht [.int x]) x3, s_static (args := #[]) (w 3156 _ (by decide +kernel)) (w 3157 _ (by decide +kernel : sW 3157 = some (.code Jvm.Lib.SL1.charAt.name Jvm.Lib.SL1.charAt.code 2 (some .char)))), by
      simp only [Jvm.Lib.Cold.isLatin1.spec, Cond.before_and, Bool.and_eq_true]
      exact ⟨w 3154 _ (by decide +kernel), rfl, w 3142 _ (by decide +kernel), w 7158 _ (by decide +kernel)⟩, ⟨rfl, s_StaticIs h3, by decide, sFd_ev (ht []) x2⟩, by
      simp only [Jvm.Lib.Cold.latin1.spec, Cond.before_and, Bool.and_eq_true]
      exact ⟨w 3157 _ (by decide +kernel), rfl, w 3158 _ (by decide +kernel), w 3159 _ (by decide +kernel), w 1017 _ (by decide +kernel)⟩, ⟨rfl, t1, t2, t3, (fun z => hx (z.imp id (fun z => by omega))), t6 _ xlt, s_static (args := #[]) (w 3159 _ (by decide +kernel)) (w 3160 _ (by decide +kernel : sW 3160 = some (.code Jvm.Lib.Str.checkIndex.name Jvm.Lib.Str.checkIndex.code 2 none))), by
      simp only [Jvm.Lib.Cold.checkIndex.spec, Cond.before_and, Bool.and_eq_true]
      exact ⟨w 3160 _ (by decide +kernel), rfl, w 3161 _ (by decide +kernel), w 3162 _ (by decide +kernel), w 3163 _ (by decide +kernel), w 1019 _ (by decide +kernel)⟩, ⟨rfl, s_StaticIs h4, s_static (args := #[]) (w 3163 _ (by decide +kernel)) (w 3164 _ (by decide +kernel : sW 3164 = some (.code Jvm.Lib.Preconditions.checkIndex.name Jvm.Lib.Preconditions.checkIndex.code 3 (some .int)))), hPC⟩⟩⟩ trivial
  refine ⟨n, o, r1, r2, r3, ?_⟩
  obtain ⟨q1, q2⟩ := hQ
  rw [sTxC_ch i hi _ (by omega)] at q2
  exact s_pure_end hPw rfl q1 q2
end STR
end
section
/-! ===== calls on the words ===== -/
theorem s_out_i {o : Nat} (h : 2000000 ≤ o ∧ o < 2000007) : ∃ i : Nat, i < 7 ∧ o = 2000000 + i := ⟨o - 2000000, by omega, by omega⟩
section RUN
variable {p : Program} {l : Launch} {e : Env} {R : Room} {s : State} {m : MethodId} {args : Array Value} {below : List Frame} {meth : Method} {c : Code} {H : Heap} {locs : List Loc} {cells slots : Nat} {Q : State → Prop} {cc : ByteArray} {pc : Nat} {ls : Array Slot} {nL base : Nat} {b : Nat → Nat} {D : va_G} {dA : Nat → ClassId} {own : String}
theorem s_callStr (E : sEnv p s m c args cc nL base b D dA own) {h : sHp} (S : sSt base b D dA s h H locs) (hsl : ls.size = nL) (ac : s.heap.size + cells = base + h.length) {d idx i : Nat} (hi : i < 7) {z : sMt} {as rest : List Value} {r : Option Value} (hcl : (mY z).cls = "java/lang/String") (f2 : Jvm.Cond.initialized (mY z).cls ∈ sTB) (hin : Jvm.Cond.instanceMethod (mY z) ∈ sTB) (hcd : Jvm.Cond.code (mY z) (mC z) (mN z) (mR z) ∈ sTB) (hl : Jvm.Cond.methodLink own idx (mY z) ∈ sTB) (hl2 : Jvm.Cond.selects (mY z).cls (mY z) (mY z) ∈ sTB) (f6 : (mY z).cls ≠ "java/lang/invoke/MethodHandle" ∧ (mY z).cls ≠ "java/lang/invoke/VarHandle" ∧ (parseMethodDescriptor (mY z).desc).map (fun d => d.parameters.length) = some (mA z)) (f7 : mN z ≤ 16) (hM : sMet l base b D dA d z (.ref (2000000 + i) :: as) h r h) (hn : as.length = mA z) (hcat : (rest.map (fun v => v.category)).sum ≤ 8)
    (hRf : d + 1 ≤ R.frames) (hRl : 39 * (d + 1) ≤ R.locals) (hc : cells ≤ R.cells) (hs : slots ≤ R.slots) (hl1 : h.length ≤ 1000000) (hdg : decode cc pc = .ok (.invokevirtual idx, 3))
    (kk : sNext p l e R s m args below meth c cells slots Q pc ls base b D dA h r h rest) : W p l e R s m args below meth c H locs cells slots Q (F0 m pc ls (rS (sAd base b) (as.reverse ++ .ref (2000000 + i) :: rest))) := by
  obtain ⟨hx, hb, hml, hown, hts, hK, hbs, hnw, hou⟩ := id E
  have hrc : ∃ cell : Cell, H[sAd base b (2000000 + i)]? = some cell ∧ cell.vm.isStatics = false ∧ s.vm.findClass (mY z).cls = some cell.cls := by
    obtain ⟨-, ⟨adV, h2⟩, -⟩ := sOuw_kept S.2.1.2.1 hou
    obtain ⟨⟨cS, kS, cell, h1, h2, h3, h4, h5, -⟩, -⟩ := h2 i hi
    have e : sAd base b (2000000 + i) = b (2000000 + i) := by unfold sAd; rw [if_pos (by omega)]
    exact ⟨cell, by rw [e]; exact h2, h4, by rw [hcl, h5]; exact h1⟩
  refine W_size fun hzz => ?_
  have hH := s_size S hbs ac hzz
  have hroom : (sRm d (h.length - h.length) (sSl h - sSl h)).frames + 1 ≤ R.frames ∧ 8 + (mN z + 11) + (sRm d (h.length - h.length) (sSl h - sSl h)).locals ≤ R.locals := ⟨hRf, by show 8 + (mN z + 11) + 39 * d ≤ _; omega⟩
  have hst : rS (sAd base b) (as.reverse ++ .ref (2000000 + i) :: rest) = (rS (sAd base b) as).reverse ++ .ref (sAd base b (2000000 + i)) :: rS (sAd base b) rest := by rw [rS, List.map_append, List.map_reverse]; rfl
  have hr := va_runV (p := p) (l := l) (e := e) (R := R) (below := below) (meth := meth) (locs := locs) (cells := cells) (slots := slots) (As := rS (sAd base b) as) (rest := rS (sAd base b) rest) (g := F0 m pc ls (rS (sAd base b) (as.reverse ++ .ref (2000000 + i) :: rest))) ⟨hx, hb, hml, hown, hts⟩ hM (cwV (C := (mY z).cls) (mA z) hts (sTB_in (fun w hw => by
    rcases List.mem_append.mp hw with hw | hw
    · simp only [List.mem_cons, List.not_mem_nil, or_false] at hw
      rcases hw with rfl | rfl | rfl | rfl
      · exact hl
      · exact hin
      · exact hl2
      · exact f2
    · rcases List.mem_cons.mp hw with rfl | hw
      · exact hcd
      · exact hw)) rfl rfl rfl ⟨rfl, f6⟩ hroom) ⟨s_blind, hrc, s_pre E S hH _⟩ rfl (by rw [List.length_map]; exact hn) hsl hst (lv_room (by rw [rS_cat]; exact hcat)) hdg ⟨by rw [Nat.sub_self]; exact hc, by rw [Nat.sub_self]; exact hs⟩
  refine s_back hr S.2.1 fun H1 l1 P1 S1 => ?_
  rw [rS_back]
  exact kk H1 l1 ⟨P1, S1, hl1⟩
theorem s_callLen (E : sEnv p s m c args cc nL base b D dA own) {h : sHp} (S : sSt base b D dA s h H locs) (hsl : ls.size = nL) (ac : s.heap.size + cells = base + h.length) {d idx i : Nat} (hd : 1 ≤ d) (hi : i < 7) {rest : List Value} (hl : Jvm.Cond.methodLink own idx Jvm.Lib.Str.length.name ∈ sTB) (hcat : (rest.map (fun v => v.category)).sum ≤ 8)
    (hRf : d + 1 ≤ R.frames) (hRl : 39 * (d + 1) ≤ R.locals) (hc : cells ≤ R.cells) (hs : slots ≤ R.slots) (hl1 : h.length ≤ 1000000) (hdg : decode cc pc = .ok (.invokevirtual idx, 3))
    (kk : sNext p l e R s m args below meth c cells slots Q pc ls base b D dA h (some (.int (Int32.ofNat (sTxL.getD i 0)))) h rest) : W p l e R s m args below meth c H locs cells slots Q (F0 m pc ls (rS (sAd base b) (.ref (2000000 + i) :: rest))) :=
  s_callStr E S hsl ac hi (z := sQl) (as := []) rfl (sW_in (p := 1017) (by decide +kernel)) (sW_in (p := 3135) (by decide +kernel)) (sW_in (p := 3137) (by decide +kernel)) hl (sW_in (p := 3136) (by decide +kernel)) (by decide +kernel) (by decide) (s_metLen hd hi h) rfl hcat hRf hRl hc hs hl1 hdg kk
theorem s_callCh (E : sEnv p s m c args cc nL base b D dA own) {h : sHp} (S : sSt base b D dA s h H locs) (hsl : ls.size = nL) (ac : s.heap.size + cells = base + h.length) {d idx i : Nat} (hd : 3 ≤ d) (hi : i < 7) {x : Int32} (hx : ¬ (x < 0 ∨ sTxL.getD i 0 ≤ x.toNatClampNeg)) {rest : List Value} (hl : Jvm.Cond.methodLink own idx Jvm.Lib.Str.charAt.name ∈ sTB) (hcat : (rest.map (fun v => v.category)).sum ≤ 8)
    (hRf : d + 1 ≤ R.frames) (hRl : 39 * (d + 1) ≤ R.locals) (hc : cells ≤ R.cells) (hs : slots ≤ R.slots) (hl1 : h.length ≤ 1000000) (hdg : decode cc pc = .ok (.invokevirtual idx, 3))
    (kk : sNext p l e R s m args below meth c cells slots Q pc ls base b D dA h (some (.int (sTxC i x.toNatClampNeg))) h rest) : W p l e R s m args below meth c H locs cells slots Q (F0 m pc ls (rS (sAd base b) (.int x :: .ref (2000000 + i) :: rest))) :=
  s_callStr E S hsl ac hi (z := sQc) (as := [.int x]) rfl (sW_in (p := 1017) (by decide +kernel)) (sW_in (p := 3148) (by decide +kernel)) (sW_in (p := 3150) (by decide +kernel)) hl (sW_in (p := 3149) (by decide +kernel)) (by decide +kernel) (by decide) (s_metCh hd hi hx h) rfl hcat hRf hRl hc hs hl1 hdg kk
end RUN
end
section
/-! ===== all of it ===== -/
section ALL
variable {p : Program} {l : Launch} {e : Env} {R : Room} {s : State} {m : MethodId} {args : Array Value} {below : List Frame} {meth : Method} {c : Code} {H : Heap} {locs : List Loc} {cells slots : Nat} {Q : State → Prop} {cc : ByteArray} {pc : Nat} {ls : Array Slot} {nL base : Nat} {b : Nat → Nat} {D : va_G} {dA : Nat → ClassId} {own : String}
theorem s_mnaStep {T : State} {locs2 : List Loc} {cells2 slots2 : Nat} (X : Stand p l e R s m args below meth c T locs cells slots) {vm₁ : Vm} {cA cB cI : ClassId} (XF : Stand p l e R s m args below meth c (sFil (T.setVm vm₁) cA cB 5) locs2 cells2 slots2) (hexec : p.tables.exec = Jvm.exec) {idx : Nat} {g : JFrame} (hg : g.method = m) (hdg : decode c.code g.pc = .ok (.multianewarray idx 2, 4)) {rest : List Value} (hstack : g.stack = .int 6 :: .int 5 :: rest)
    (hg₁ : (Jvm.resolveClass m.cls idx).Gives e.toSetting T.vm (.ok cA) vm₁) (hwarm₁ : s.WarmedH vm₁) {kA kB : Class} (hkA : vm₁.classes[cA]? = some kA) (hkindA : kA.kind = .array cB (.array .int)) (hkB : vm₁.classes[cB]? = some kB) (hkindB : kB.kind = .array cI .int)
    (hl1 : ¬ 5 > e.platform.arrayLengthLimit) (hh1 : ¬ 5 * componentBytes (.array .int) > e.platform.maxHeapBytes) (hl2 : ¬ 6 > e.platform.arrayLengthLimit) (hh2 : ¬ 6 * componentBytes .int > e.platform.maxHeapBytes)
    (hc : T.heap.size + 6 ≤ e.platform.maxCells) (hs : T.slotsUsed + 35 ≤ e.platform.maxSlots) :
    ∀ target, Steps p.tables e below ((sFil (T.setVm vm₁) cA cB 5).setTop { g with pc := g.pc + 4, stack := .ref T.heap.size :: rest }) target → Steps p.tables e below (T.setTop g) target := by
  subst hg
  intro target hrest
  jvm_step X.here [hexec, hdg]
  simp only [multianewarray.sem, wp_bind', W.resolveClassAt_links (State.method?_setTop g X.here.top) hg₁]
  rw [W.popN, if_neg (by decide)]
  refine ⟨g, State.topJava?_setTop' (s := T.setVm vm₁) g X.here.top, [.int 5, .int 6], rest, rfl, hstack, ?_⟩
  simp only [List.mapM_cons, List.mapM_nil, wp_bind', wp_pure']
  refine s_wpMake (kA := kA) (kB := kB) (cB := cB) (cI := cI) hkA hkindA hkB hkindB hl1 hh1 hl2 hh2 (by show T.heap.size + 6 ≤ _; exact hc) (by show T.slotsUsed + 35 ≤ _; exact hs) (fun d' acts' => ?_)
  have eS : ((T.setTop g).setVm vm₁).setTop { g with stack := rest } = (T.setVm vm₁).setTop { g with stack := rest } := by
    show ((T.setVm vm₁).setTop g).setTop _ = _
    rw [State.setTop_setTop]
  rw [eS, sFil_top]
  simp only [wp_bind', W.mark, W.pushRef, State.topJava?_setTop' _ XF.here.top, Option.some.injEq, exists_eq_left', State.setTop_setTop, State.heap_setTop]
  intro acts
  simp [jvm, XF.here.top]
  exact hrest
set_option maxHeartbeats 4000000 in
theorem s_newM (E : sEnv p s m c args cc nL base b D dA own) {h h' : sHp} (S : sSt base b D dA s h H locs) (ac : s.heap.size + cells = base + h.length) {idx : Nat} (hdg : decode cc pc = .ok (.multianewarray idx 2, 4)) (hw1 : Jvm.Cond.classLink own idx ("[" ++ (FieldType.array .int).toString) ∈ sTB) (hw2 : Jvm.Cond.arrayClass .int ∈ sTB) {st st' : List Value} (hh : sNewM st h = some (st', h')) (hl : h'.length ≤ 1000000)
    (hc : cells + (h'.length - h.length) ≤ R.cells) (hs : slots + (sSl h' - sSl h) ≤ R.slots)
    (kk : ∀ (H1 : Heap) (locs1 : List Loc), sSt base b D dA s h' H1 locs1 → W p l e R s m args below meth c H1 locs1 (cells + (h'.length - h.length)) (slots + (sSl h' - sSl h)) Q (F0 m (pc + 4) ls (rS (sAd base b) st'))) : W p l e R s m args below meth c H locs cells slots Q (F0 m pc ls (rS (sAd base b) st)) := by
  obtain ⟨hx, hb, hml, hown, hts, hK, hbs, hnw, hou⟩ := E
  unfold sNewM at hh
  split at hh
  · rename_i k n r
    split at hh
    · rename_i hkn
      obtain ⟨rfl, rfl⟩ := hkn
      cases hh
      have e1 : (h ++ ((.inl (5, 5, .inr (.inr (.inr (.inr (fun j => if j < 5 then some (h.length + 1 + j) else none))))) : va_E) :: List.replicate 5 (.inl (0, 6, .inl (fun _ => 0))))).length = h.length + 6 := by rw [List.length_append]; rfl
      have e2 : sSl (h ++ ((.inl (5, 5, .inr (.inr (.inr (.inr (fun j => if j < 5 then some (h.length + 1 + j) else none))))) : va_E) :: List.replicate 5 (.inl (0, 6, .inl (fun _ => 0))))) = sSl h + 35 := by rw [sSl_app]; rfl
      rw [e1, e2, show h.length + 6 - h.length = 6 by omega, show sSl h + 35 - sSl h = 35 by omega] at kk
      rw [e1, show h.length + 6 - h.length = 6 by omega] at hc
      rw [e2, show sSl h + 35 - sSl h = 35 by omega] at hs
      rw [e1] at hl
      refine W_size fun hz => ?_
      have hH := s_size S hbs ac hz
      intro T hT X
      subst hb
      have hpl : e.platform.magicAccessors = ({} : Platform).magicAccessors := by rw [X.admits.platform]
      obtain ⟨comp, cA, kA, hcomp, -, hkA, hkindA, hnameA⟩ := sAO_use (hnw (.arrayOver (.array .int)) (by simp [sNwl]))
      obtain ⟨comp', kC, cI, hcomp', hkC, hkindC⟩ := Cond.arrayClass_spec (hts _ hw2)
      have ecomp : comp' = comp := Option.some.inj (hcomp'.symm.trans hcomp)
      subst ecomp
      have eA : cA = dA 5 := Option.some.inj (hnameA.symm.trans (hK.2 5 _ rfl).2)
      have eC : comp' = dA 0 := Option.some.inj (hcomp'.symm.trans (hK.2 0 _ rfl).2)
      obtain ⟨c0, hfc0, hcl⟩ := Cond.classLink_spec hown (hts _ hw1) e.platform hpl
      cases hnameA.symm.trans hfc0
      obtain ⟨hg₁, hwarm₁, hready₁⟩ := State.classEntry (e := e) X.warmed hcl
      generalize T.vm.noted m.cls idx (.cls cA) = vm₁ at hg₁ hwarm₁ hready₁
      have hal : s.vm.Alike vm₁ := hwarm₁.alike
      obtain ⟨kA₁, hkA₁, heA⟩ := hal.2.2 _ _ hkA
      obtain ⟨kC₁, hkC₁, heC⟩ := hal.2.2 _ _ hkC
      have hkindA₁ : kA₁.kind = .array comp' (.array .int) := by rw [heA]; exact hkindA
      have hkindC₁ : kC₁.kind = .array cI .int := by rw [heC]; exact hkindC
      have X₁ := X.noted hwarm₁
      obtain ⟨hr1, hr2⟩ := X.roomAbove hc hs
      obtain ⟨Lf, hLf, XF⟩ := sFil_stand X₁ cA comp' 5
      obtain ⟨f1, f2, f3, f4, f5, f6⟩ := sFil_facts (T.setVm vm₁) cA comp' 5
      have hTs : (T.setVm vm₁).heap.size = base + h.length := by show T.heap.size = _; rw [hT]; exact hH
      have hTh : (T.setVm vm₁).heap = H := hT
      rw [hTs] at f1 f2 f5 f6
      have hst : sSt base b D dA s (h ++ ((.inl (5, 5, .inr (.inr (.inr (.inr (fun j => if j < 5 then some (h.length + 1 + j) else none))))) : va_E) :: List.replicate 5 (.inl (0, 6, .inl (fun _ => 0))))) (sFil (T.setVm vm₁) cA comp' 5).heap (locs ++ Lf) := by
        refine ⟨fun k q hk => ?_, ⟨by rw [f1]; have := S.2.1.1; omega, fun q g1 g2 => ?_, fun q hq => ?_⟩, by rw [e1]; exact hl⟩
        · rw [rW_get] at hk
          obtain ⟨x, hx1, hx2⟩ := Option.map_eq_some_iff.mp hk
          by_cases hkl : k < h.length
          · rw [List.getElem?_append_left hkl] at hx1
            have h7 := S.1 k _ (rW_at hx1)
            rw [hx2] at h7
            refine h7.kept ?_
            have h8 := h7.lt
            rw [f5 _ (by omega), hTh]
          · rw [List.getElem?_append_right (by omega)] at hx1
            obtain ⟨j, hj⟩ : ∃ j, k - h.length = j := ⟨_, rfl⟩
            rw [hj] at hx1
            have hsk : sAd base b k = base + k := sAd_in (by
              have h9 := (List.getElem?_eq_some_iff.mp hx1).1
              rw [List.length_cons, List.length_replicate] at h9
              omega)
            rw [← hx2]
            cases j with
            | zero =>
              rw [List.getElem?_cons_zero] at hx1
              cases hx1
              show (sFil (T.setVm vm₁) cA comp' 5).heap[sAd base b k]? = some (vp_cell (dA 5) (5, .inr (.inr (.inr (.inr (fun j => (if j < 5 then some (h.length + 1 + j) else none).map (sAd base b)))))))
              rw [hsk, show base + k = base + h.length by omega, f2, ← eA, vp_cell_q]
              refine congrArg some (congrArg (arrV cA 5) (funext fun j => ?_))
              by_cases hj5 : j < 5
              · rw [if_pos hj5, if_pos hj5]
                show va_rf (some (base + h.length + 1 + j)) = va_rf (some (sAd base b (h.length + 1 + j)))
                rw [sAd_in (by omega)]
                exact congrArg (fun x => va_rf (some x)) (by omega)
              · rw [if_neg hj5, if_neg hj5]
                rfl
            | succ j =>
              rw [List.getElem?_cons_succ, List.getElem?_replicate] at hx1
              split at hx1
              · rename_i hj5
                cases hx1
                show (sFil (T.setVm vm₁) cA comp' 5).heap[sAd base b k]? = some (vp_cell (dA 0) (6, .inl (fun _ => 0)))
                rw [hsk, show base + k = base + h.length + 1 + j by omega, f6 j hj5, ← eC]
                rfl
              · cases hx1
        · rw [f5 q (by have := S.2.1.1; omega), hTh]
          exact S.2.1.2.1 q g1 g2
        · rcases List.mem_append.mp hq with h7 | h7
          · exact S.2.1.2.2 q h7
          · rw [hLf q h7, hTs]
            omega
      have h2 := kk (sFil (T.setVm vm₁) cA comp' 5).heap (locs ++ Lf) hst
      rw [rS, List.map_cons] at h2
      have e5 : rV (sAd base b) (.ref h.length) = .ref T.heap.size := by show Value.ref (sAd base b h.length) = _; rw [sAd_in (by omega), hT, hH]
      rw [e5] at h2
      obtain ⟨t, a1, b1⟩ := h2 (sFil (T.setVm vm₁) cA comp' 5) rfl XF
      refine ⟨t, ?_, b1⟩
      have hl1 : ¬ 5 > e.platform.arrayLengthLimit := by rw [Launch.admits_arrayLengthLimit X.admits]; omega
      have hh1 : ¬ 5 * componentBytes (.array .int) > e.platform.maxHeapBytes := by rw [Launch.admits_maxHeapBytes X.admits]; show ¬ 5 * 4 > 536870912; omega
      have hl2 : ¬ 6 > e.platform.arrayLengthLimit := by rw [Launch.admits_arrayLengthLimit X.admits]; omega
      have hh2 : ¬ 6 * componentBytes .int > e.platform.maxHeapBytes := by rw [Launch.admits_maxHeapBytes X.admits]; show ¬ 6 * 4 > 536870912; omega
      exact s_mnaStep X XF hx (g := F0 m pc ls (rS (sAd base b) (.int 6 :: .int 5 :: r))) rfl hdg rfl hg₁ hwarm₁ hkA₁ hkindA₁ hkC₁ hkindC₁ hl1 hh1 hl2 hh2 (by omega) (by omega) t a1
    · cases hh
  · cases hh
set_option maxHeartbeats 4000000 in
theorem s_heap (E : sEnv p s m c args cc nL base b D dA own) {h h' : sHp} (S : sSt base b D dA s h H locs) (ac : s.heap.size + cells = base + h.length) {nm : String} (hnm : nm = "<init>" → meth.name = "<init>") {ins : Instr} {st st' : List Value} (hh : sHeap ins st h = some (st', h')) {r : List Nat} {len : Nat} (hd : decode cc pc = .ok (sReal ins r, len)) (hln : sSw ins = true ∨ len = sLen ins) (hex : sExt own nm ins r = true) (hl : h'.length ≤ 1000000)
    (hsl : ls.size = nL) (hRf : 1 ≤ R.frames) (hRl : 39 ≤ R.locals) (hc : cells + (h'.length - h.length) ≤ R.cells) (hs : slots + (sSl h' - sSl h) ≤ R.slots)
    (kk : ∀ (H1 : Heap) (locs1 : List Loc), sSt base b D dA s h' H1 locs1 → W p l e R s m args below meth c H1 locs1 (cells + (h'.length - h.length)) (slots + (sSl h' - sSl h)) Q (F0 m (pc + sLen ins) ls (rS (sAd base b) st'))) : W p l e R s m args below meth c H locs cells slots Q (F0 m pc ls (rS (sAd base b) st)) := by
  have kk0 : h'.length = h.length → sSl h' = sSl h → ∀ (H1 : Heap) (locs1 : List Loc), sSt base b D dA s h' H1 locs1 → W p l e R s m args below meth c H1 locs1 cells slots Q (F0 m (pc + sLen ins) ls (rS (sAd base b) st')) := by
    intro e1 e2 H1 l1 S1
    have h2 := kk H1 l1 S1
    rw [e1, e2, Nat.sub_self, Nat.sub_self, Nat.add_zero, Nat.add_zero] at h2
    exact h2
  have hlen := hln.resolve_left (fun z => by rw [(sHeap_nop hh).2] at z; cases z)
  subst hlen
  have hx := E.1
  have hb := E.2.1
  have hown := E.2.2.2.1
  have hts := E.2.2.2.2.1
  unfold sHeap at hh
  split at hh
  · simp only [sExt] at hex
    split at hex
    · exact s_get E S hd (sChkG_ok hex) hh (fun e => by subst e; exact kk0 rfl rfl _ _ S)
    · cases hex
  · simp only [sExt] at hex
    split at hex
    · rw [Bool.and_eq_true] at hex
      exact s_put E S hd (ini := nm = "<init>") hnm (sChkF_ok hex.1 hex.2) hh (fun H1 l1 S1 e1 e2 => kk0 e1 e2 H1 l1 S1)
    · cases hex
  · exact s_ldAI E S hd hh (fun e => by subst e; exact kk0 rfl rfl _ _ S)
  · exact s_ldAZ E S hd hh (fun e => by subst e; exact kk0 rfl rfl _ _ S)
  · exact s_ldAL E S hd hh (fun e => by subst e; exact kk0 rfl rfl _ _ S)
  · exact s_ldAA E S hd hh (fun e => by subst e; exact kk0 rfl rfl _ _ S)
  · exact s_stAI E S hd hh (fun H1 l1 S1 e1 e2 => kk0 e1 e2 H1 l1 S1)
  · exact s_stAZ E S hd hh (fun H1 l1 S1 e1 e2 => kk0 e1 e2 H1 l1 S1)
  · exact s_stAL E S hd hh (fun H1 l1 S1 e1 e2 => kk0 e1 e2 H1 l1 S1)
  · exact s_stAA E S hd hh (fun H1 l1 S1 e1 e2 => kk0 e1 e2 H1 l1 S1)
  · exact s_alen E S hd hh (fun e => by subst e; exact kk0 rfl rfl _ _ S)
  · rename_i k
    simp only [sExt] at hex
    split at hex
    · rename_i idx p1 p2 p3 q hq
      simp only [Bool.and_eq_true] at hex
      exact s_new E S ac hd ⟨q, hq, sWi_in hex.1.1, sWi_in hex.1.2, sWi_in hex.2⟩ hh hl hc hs (fun H1 S1 => kk H1 locs S1)
    · cases hex
  · simp only [sExt] at hex
    split at hex
    · exact s_newA E S ac hd (sWi_in hex) hh hl hc hs (fun H1 S1 => kk H1 locs S1)
    · cases hex
  · simp only [sExt] at hex
    split at hex
    · simp only [Bool.or_eq_true, Bool.and_eq_true, beq_iff_eq] at hex
      exact s_newQ E S ac hd (hex.imp (fun z => ⟨z.1, sWi_in z.2⟩) (fun z => ⟨z.1, sWi_in z.2⟩)) hh hl hc hs (fun H1 S1 => kk H1 locs S1)
    · cases hex
  · simp only [sExt] at hex
    split at hex
    · simp only [Bool.and_eq_true, beq_iff_eq] at hex
      obtain ⟨rfl, w1, w2⟩ := hex
      exact s_newM E S ac hd (sWi_in w1) (sWi_in w2) hh hl hc hs kk
    · cases hex
  · cases hh
    simp only [sExt] at hex
    split at hex
    · exact lv_ldc2 hx hb hown (hts _ (sWi_in hex)) hd (kk0 rfl rfl _ _ S)
    · cases hex
  · rename_i k
    simp only [sExt] at hex
    split at hex
    · simp only [Bool.and_eq_true, decide_eq_true_eq] at hex
      rw [if_pos hex.1] at hh
      cases hh
      exact lv_ldc hx hb hown (hts _ (sWi_in hex.2)) hd (kk0 rfl rfl _ _ S)
    · simp only [decide_eq_true_eq] at hex
      obtain ⟨e1, e2, e3⟩ := hex
      rw [if_neg (by omega)] at hh
      split at hh
      · cases hh
        subst e1
        exact s_ldcS E (i := k - 4294967296) (by omega) e3 hd (kk0 rfl rfl _ _ S)
      · cases hh
    · cases hex
  · cases hh
    simp only [sExt] at hex
    split at hex
    · exact lv_ldcw hx hb hown (hts _ (sWi_in hex)) hd (kk0 rfl rfl _ _ S)
    · cases hex
  · split at hh
    · rename_i e3
      subst e3
      simp only [sExt] at hex
      rw [if_neg (by decide), if_pos trivial] at hex
      split at hex
      · simp only [Bool.and_eq_true] at hex
        exact s_cpy E hsl S hd (sWi_in hex.1) (sWi_in hex.2.1) (sWi_in hex.2.2.1) (sWi_in hex.2.2.2) hRf hRl hh (fun H1 l1 S1 e1 e2 => kk0 e1 e2 H1 l1 S1)
      · cases hex
    · cases hh
  · cases hh
theorem s_scr (E : sEnv p s m c args cc nL base b D dA own) {h : sHp} (S : sSt base b D dA s h H locs) {X : sX} (hX : ∀ L xs, X = some (L, xs) → va_X (b 1000000) L xs s s.heap ∧ b 1000000 < s.heap.size ∧ ¬ base ≤ b 1000000) {ins : Instr} {st st' : List Value} (hh : sScr X ins st = some st') {r : List Nat} {len : Nat} (hd : decode cc pc = .ok (sReal ins r, len)) (hln : sSw ins = true ∨ len = sLen ins)
    (kk : W p l e R s m args below meth c H locs cells slots Q (F0 m (pc + sLen ins) ls (rS (sAd base b) st'))) : W p l e R s m args below meth c H locs cells slots Q (F0 m pc ls (rS (sAd base b) st)) := by
  have hx := E.1
  have hb := E.2.1
  unfold sScr at hh
  split at hh
  · rename_i L xs
    obtain ⟨h1, h2, h3⟩ := hX L xs rfl
    split at hh
    · have hlen := hln.resolve_left (fun z => by cases z)
      subst hlen
      split at hh
      · split at hh
        · rename_i ha
          cases hh
          subst ha
          exact va_slen hx hb h1 h2 h3 S.2.1 hd kk
        · cases hh
      · cases hh
    · have hlen := hln.resolve_left (fun z => by cases z)
      subst hlen
      split at hh
      · split at hh
        · rename_i ha
          cases hh
          obtain ⟨rfl, hin⟩ := ha
          exact va_sld hx hb h1 h2 h3 S.2.1 hin hd kk
        · cases hh
      · cases hh
    · cases hh
  · cases hh
theorem sScr_nop {X : sX} {ins : Instr} {st st' : List Value} (hh : sScr X ins st = some st') : ins ≠ .nop := by
  unfold sScr at hh
  split at hh
  · split at hh
    · intro z; cases z
    · intro z; cases z
    · cases hh
  · cases hh
theorem s_sum {v w : Value} {r : List Value} (h : ((v :: w :: r).map (fun v => v.category)).sum ≤ 10) : (r.map (fun v => v.category)).sum ≤ 8 := by
  have h1 : 1 ≤ v.category := by rcases lv_cat v with q | q <;> omega
  have h2 : 1 ≤ w.category := by rcases lv_cat w with q | q <;> omega
  simp only [List.map_cons, List.sum_cons] at h
  omega
theorem s_spec (E : sEnv p s m c args cc nL base b D dA own) (hsl : ls.size = nL) {ins : Instr} {st st' : List Value} (hk : sKnd ins ≠ 5) (hh : sSpec ins st = some st') (hcat : (st.map (fun v => v.category)).sum ≤ 10) {nm : String} {r : List Nat} {len : Nat} (hd : decode cc pc = .ok (sReal ins r, len)) (hln : sSw ins = true ∨ len = sLen ins) (hex : sExt own nm ins r = true) (hRf : 1 ≤ R.frames) (hRl : 39 ≤ R.locals) (hc : cells ≤ R.cells) (hs : slots ≤ R.slots)
    (kk : W p l e R s m args below meth c H locs cells slots Q (F0 m (pc + 3) ls (rS (sAd base b) st'))) : W p l e R s m args below meth c H locs cells slots Q (F0 m pc ls (rS (sAd base b) st)) := by
  obtain ⟨hx, hb, hml, hown, hts, hK, hbs, hnw, hou⟩ := id E
  unfold sSpec at hh
  split at hh
  · rename_i k
    have hlen := hln.resolve_left (fun z => by cases z)
    subst hlen
    have hk1 : ¬ k < 258 := by
      intro z
      apply hk
      unfold sKnd
      dsimp only
      rw [if_pos (by omega)]
    have hk3 : ¬ k = 1003 := by
      intro z
      subst z
      rw [if_neg (by decide), if_neg (by decide), if_neg (by decide)] at hh
      cases hh
    simp only [sExt] at hex
    rw [if_neg hk1, if_neg hk3] at hex
    split at hex
    · simp only [Bool.and_eq_true, decide_eq_true_eq] at hex
      obtain ⟨⟨-, w2⟩, w⟩ := hex
      split at hh
      · rename_i h0
        rw [if_pos h0] at w
        simp only [Bool.and_eq_true] at w
        obtain ⟨x, y, v, r', rfl, h1, rfl⟩ := s2i_of hh
        cases h1
        have hct := s_sum hcat
        exact va_mmax hx hb (hml.trans hsl.symm) hown (hts _ (sWi_in w.1.1)) (hts _ (sWi_in w.1.2)) (hts _ (sWi_in w2)) (hts _ (sWi_in w.2)) hRf (by rw [rS_cat]; omega) hc hs hd kk
      · split at hh
        · rename_i h0' h0
          rw [if_neg h0', if_pos h0] at w
          simp only [Bool.and_eq_true] at w
          obtain ⟨x, y, v, r', rfl, h1, rfl⟩ := s2i_of hh
          cases h1
          have hct := s_sum hcat
          exact va_mmin hx hb (hml.trans hsl.symm) hown (hts _ (sWi_in w.1.1)) (hts _ (sWi_in w.1.2)) (hts _ (sWi_in w2)) (hts _ (sWi_in w.2)) hRf (by rw [rS_cat]; omega) hc hs hd kk
        · split at hh
          · rename_i h0' h0'' h0
            rw [if_neg h0', if_neg h0''] at w
            simp only [Bool.and_eq_true] at w
            obtain ⟨x, r', rfl, rfl⟩ := s1i_of hh
            have hct : (r'.map (fun v => v.category)).sum ≤ 10 := by
              simp only [List.map_cons, List.sum_cons] at hcat
              omega
            exact va_mabs hx hb (hml.trans hsl.symm) hown (hts _ (sWi_in w.1.1)) (hts _ (sWi_in w.1.2)) (hts _ (sWi_in w2)) (hts _ (sWi_in w.2)) hRf (by rw [rS_cat]; omega) hc hs hd kk
          · cases hh
    · cases hex
  · rename_i k
    have hlen := hln.resolve_left (fun z => by cases z)
    subst hlen
    split at hh
    · rename_i h0
      subst h0
      split at hh
      · rename_i o r'
        cases hh
        simp only [sExt] at hex
        rw [if_neg (by decide)] at hex
        split at hex
        · simp only [Bool.and_eq_true] at hex
          have hct : (st'.map (fun v => v.category)).sum ≤ 10 := by
            simp only [List.map_cons, List.sum_cons] at hcat
            omega
          exact W.objInit hx hb hown (hts _ (sWi_in hex.1.1.2)) (hts _ (sWi_in hex.1.2)) (hts _ (sWi_in hex.2)) (g := F0 m pc ls (.ref (sAd base b o) :: rS (sAd base b) st')) rfl (hsl.trans hml.symm) rfl hd hRf (by rw [rS_cat]; show 2 * 0 + _ + 12 ≤ _; omega) kk
        · cases hex
      · cases hh
    · cases hh
  · cases hh
set_option maxHeartbeats 4000000 in
theorem s_run {q : sMt} (hq : ∀ e ∈ mT q, sChkE q e = true) {X : sX} {d nf : Nat} (E : sEnv p s m c args (mC q) (mN q) base b D dA (mY q).cls) (hnm : (mY q).name = "<init>" → meth.name = "<init>") (hX : ∀ L xs, X = some (L, xs) → va_X (b 1000000) L xs s s.heap ∧ b 1000000 < s.heap.size ∧ ¬ base ≤ b 1000000) (hRf : d + 1 ≤ R.frames) (hRl : 39 * (d + 1) ≤ R.locals)
    (hgood : ∀ (k : Nat) (z : sMt), k < 258 → sM k = some z → sChkM z = true)
    (hmet : ∀ (k : Nat) (as : List Value) (h : sHp) (r : Option Value) (h' : sHp) (z : sMt), k < 258 → sM k = some z → sCall d nf k as h = some (r, h') → h'.length ≤ 1000000 → sMet l base b D dA d z as h r h')
    {sl0 : Nat} {hf : sHp} {v : Option Value} (hfl : hf.length ≤ 1000000) (hRc : base + hf.length ≤ s.heap.size + R.cells) (hRs : sSl hf ≤ sl0 + R.slots)
    (kret : ∀ (pc' : Nat) (ins : Instr) (ls' : Array Slot) (st' : List Value) (H' : Heap) (locs' : List Loc) (cells' slots' : Nat), sRet (mR q) ins st' = some v → decode (mC q) pc' = .ok (ins, 1) → sSt base b D dA s hf H' locs' → s.heap.size + cells' = base + hf.length → slots' + sl0 = sSl hf → W p l e R s m args below meth c H' locs' cells' slots' Q (F0 m pc' ls' (rS (sAd base b) st'))) :
    ∀ (n pc : Nat) (L : sLo) (st : List Value) (h : sHp) (H : Heap) (ls : Array Slot) (locs : List Loc) (cells slots : Nat), sRun X (sFt q) (mR q) (sCal sNA sOwn sVt) (sCall d nf) n pc L st h = some (v, hf) → sSt base b D dA s h H locs → sLs (sAd base b) (mN q) L ls → s.heap.size + cells = base + h.length → slots + sl0 = sSl h → W p l e R s m args below meth c H locs cells slots Q (F0 m pc ls (rS (sAd base b) st)) := by
  have cle : ∀ k as h r h', sCall d nf k as h = some (r, h') → sLe h h' := fun k as h r h' => sCall_le d nf k as h r h'
  intro n
  induction n with
  | zero => intro pc L st h H ls locs cells slots hr; cases hr
  | succ n ih =>
    intro pc L st h H ls locs cells slots hr S hl ac as
    have hle0 := sRun_le cle _ _ _ _ _ _ _ hr
    rw [sRun] at hr
    cases hF : sFt q pc with
    | none => rw [hF] at hr; cases hr
    | some ins =>
      rw [hF] at hr
      dsimp only at hr
      have hx := E.1
      have hb := E.2.1
      split at hr
      · obtain ⟨st1, h1, h2⟩ := Option.bind_eq_some_iff.mp hr
        obtain ⟨r, len, hd, hln, hex⟩ := sChkE_of hq hF (sPure_real h1 []).2.2
        obtain ⟨e1, e2, -⟩ := sPure_real h1 r
        rw [e1] at hd
        have e3 := hln.resolve_left (fun z => by rw [e2] at z; cases z)
        subst e3
        exact s_pure hx hb h1 hd (ih _ _ _ _ _ _ _ _ _ h2 S hl ac as)
      · obtain ⟨z, h1, h2⟩ := Option.bind_eq_some_iff.mp hr
        obtain ⟨r, len, hd, hln, hex⟩ := sChkE_of hq hF (sLoc_real h1 []).2.2
        obtain ⟨e1, e2, -⟩ := sLoc_real h1 r
        rw [e1] at hd
        have e3 := hln.resolve_left (fun z => by rw [e2] at z; cases z)
        subst e3
        exact s_loc hx hb hl h1 hd (fun ls' hl' => ih _ _ _ _ _ _ _ _ _ h2 S hl' ac as)
      · split at hr
        · rename_i st1 h1
          obtain ⟨r, len, hd, hln, hex⟩ := sChkE_of hq hF (sScr_nop h1)
          exact s_scr E S hX h1 hd hln (ih _ _ _ _ _ _ _ _ _ hr S hl ac as)
        · obtain ⟨z, h1, h2⟩ := Option.bind_eq_some_iff.mp hr
          obtain ⟨r, len, hd, hln, hex⟩ := sChkE_of hq hF (sHeap_nop h1).1
          have hle1 := sHeap_le h1
          have hle2 := sRun_le cle _ _ _ _ _ _ _ h2
          have g1 := hle1.1
          have g2 := hle1.2
          have g3 := hle2.1
          have g4 := hle2.2
          exact s_heap E S ac hnm h1 hd hln hex (by omega) hl.2.2.1 (by omega) (by omega) (by omega) (by omega) (fun H1 l1 S1 => ih _ _ _ _ _ _ _ _ _ h2 S1 hl (by omega) (by omega))
      · obtain ⟨z, h1, h2⟩ := Option.bind_eq_some_iff.mp hr
        obtain ⟨r, len, hd, hln, hex⟩ := sChkE_of hq hF (sJmp_real h1 []).2.1
        obtain ⟨e1, -, e2⟩ := sJmp_real h1 r
        rw [e1] at hd
        refine s_jmp hx hb h1 hd ?_ (ih _ _ _ _ _ _ _ _ _ h2 S hl ac as)
        rcases e2 with e2 | ⟨dd, ps, rfl⟩ | ⟨e2, e3, e4⟩
        · exact Or.inl e2
        · exact Or.inr (Or.inl ⟨dd, ps, rfl, hex⟩)
        · exact Or.inr (Or.inr ⟨(hln.resolve_left (fun z => by rw [e2] at z; cases z)).trans e3, e4⟩)
      · obtain ⟨z, h1, h2⟩ := Option.map_eq_some_iff.mp hr
        cases h2
        obtain ⟨r, len, hd, hln, hex⟩ := sChkE_of hq hF (sRet_real h1 []).2.2.1
        obtain ⟨e1, e2, -, e4⟩ := sRet_real h1 r
        rw [e1] at hd
        have e3 := (hln.resolve_left (fun z => by rw [e2] at z; cases z)).trans e4
        subst e3
        exact kret _ _ _ _ _ _ _ _ h1 hd S ac as
      · rename_i hkd
        obtain ⟨z, h1, h2⟩ := Option.bind_eq_some_iff.mp hr
        split at h2
        · rename_i hcat
          obtain ⟨y, h3, h4⟩ := Option.bind_eq_some_iff.mp h2
          have hle1 := cle _ _ _ _ _ h3
          have hle2 := sRun_le cle _ _ _ _ _ _ _ h4
          have g1 := hle1.1
          have g2 := hle1.2
          have g3 := hle2.1
          have g4 := hle2.2
          have hsl := hl.2.2.1
          have knx : ∀ (ls0 : Array Slot), ls0 = ls → sNext p l e R s m args below meth c cells slots Q pc ls0 base b D dA h y.1 y.2 z.2.2 := fun ls0 e0 H1 l1 S1 => by
            subst e0
            exact ih _ _ _ _ _ _ _ _ _ h4 S1 hl (by omega) (by omega)
          have hni : ins ≠ .nop := fun z => by rw [z] at hkd; cases hkd
          obtain ⟨r, len, hd, hln, hex⟩ := sChkE_of hq hF hni
          unfold sCal at h1
          split at h1
          · rename_i k
            obtain ⟨w, h5, h6⟩ := Option.map_eq_some_iff.mp h1
            subst h6
            obtain ⟨h7, h8⟩ := sPop_of h5
            have hlen := hln.resolve_left (fun z => by cases z)
            subst hlen
            have hk0 : k < 1000 := by
              rcases Nat.lt_or_ge k 1000 with z | z
              · exact z
              · unfold sKnd at hkd
                dsimp only at hkd
                rw [if_neg (by omega)] at hkd
                split at hkd <;> cases hkd
            simp only [sExt] at hex
            by_cases hk : k < 258
            · rw [if_pos hk] at hex
              split at hex
              · rename_i idx p1 zz hzz
                simp only [Bool.and_eq_true, beq_iff_eq] at hex
                have hna : sNA k = mA zz := by unfold sNA; rw [hzz]
                have hm := hmet k w.1 h y.1 y.2 zz hk hzz h3 (by omega)
                rw [h7]
                exact s_callStatic E S hsl ac (hgood k zz hk hzz) hex.1 (sWi_in hex.2) hm (h8.trans hna) hcat hRf hRl (by omega) (by omega) (by omega) hd (knx ls rfl)
              · cases hex
            · rw [if_neg hk, if_neg (show ¬ k = 1003 by omega)] at hex
              split at hex
              · simp only [Bool.and_eq_true, decide_eq_true_eq] at hex
                omega
              · cases hex
          · rename_i k
            obtain ⟨w, h5, h6⟩ := Option.bind_eq_some_iff.mp h1
            obtain ⟨h7, h8⟩ := sPop_of h5
            have hlen := hln.resolve_left (fun z => by cases z)
            subst hlen
            have hk0 : k < 1000 := by
              rcases Nat.lt_or_ge k 1000 with z | z
              · exact z
              · unfold sKnd at hkd
                dsimp only at hkd
                rw [if_neg (by omega)] at hkd
                cases hkd
            split at h6
            · rename_i o rr hw2
              split at h6
              · rename_i ob hob
                cases h6
                simp only [sExt] at hex
                by_cases hk : k < 258
                · rw [if_pos hk] at hex
                  rw [h7, hw2]
                  split at hex
                  · rename_i idx p1 zz hzz
                    simp only [Bool.and_eq_true, beq_iff_eq] at hex
                    have hna : sNA k = mA zz := by unfold sNA; rw [hzz]
                    have hm := hmet k _ h y.1 y.2 zz hk hzz h3 (by omega)
                    exact s_callInit E S hsl ac (hgood k zz hk hzz) hex.1 (Or.inl (sWi_in hex.2)) hm (h8.trans hna) hcat hRf hRl (by omega) (by omega) (by omega) hd (knx ls rfl)
                  · rename_i idx zz hzz
                    simp only [Bool.and_eq_true, beq_iff_eq, decide_eq_true_eq] at hex
                    have hna : sNA k = mA zz := by unfold sNA; rw [hzz]
                    have hm := hmet k _ h y.1 y.2 zz hk hzz h3 (by omega)
                    exact s_callInit E S hsl ac (hgood k zz hk hzz) hex.1 (Or.inr hex.2) hm (h8.trans hna) hcat hRf hRl (by omega) (by omega) (by omega) hd (knx ls rfl)
                  · rename_i idx p1 p2 p3 zz hzz
                    unfold sSup at hex
                    simp only [Bool.and_eq_true, beq_iff_eq] at hex
                    have hna : sNA k = mA zz := by unfold sNA; rw [hzz]
                    have hm := hmet k _ h y.1 y.2 zz hk hzz h3 (by omega)
                    obtain ⟨ci, fs⟩ := ob
                    exact s_callUp E S hsl ac hob (hgood k zz hk hzz) hex.1 (sWi_in hex.2.1.1) (sWi_in hex.2.1.2) (sWi_in hex.2.2) hm (h8.trans hna) hcat hRf hRl (by omega) (by omega) (by omega) hd (knx ls rfl)
                  · rename_i idx p1 p2 p3 p4 zz hzz
                    simp only [Bool.and_eq_true, beq_iff_eq] at hex
                    have hna : sNA k = mA zz := by unfold sNA; rw [hzz]
                    have hm := hmet k _ h y.1 y.2 zz hk hzz h3 (by omega)
                    obtain ⟨ci, fs⟩ := ob
                    obtain ⟨xc, w1, w2, w3, w4⟩ := sSup2_of hex.2
                    exact s_callUp2 E S hsl ac hob (hgood k zz hk hzz) hex.1 w1 w2 w3 w4 hm (h8.trans hna) hcat hRf hRl (by omega) (by omega) (by omega) hd (knx ls rfl)
                  · cases hex
                · rw [if_neg hk] at hex
                  split at hex
                  · simp only [Bool.and_eq_true, decide_eq_true_eq] at hex
                    omega
                  · cases hex
              · cases h6
            · cases h6
          · rename_i k
            have hlen := hln.resolve_left (fun z => by cases z)
            subst hlen
            simp only [sExt] at hex
            split at h1
            · rename_i hk0
              obtain ⟨w, h5, h6⟩ := Option.bind_eq_some_iff.mp h1
              obtain ⟨h7, h8⟩ := sPop_of h5
              split at h6
              · rename_i o rr hw2
                split at h6
                · rename_i ci fs hob
                  split at h6
                  · rename_i hci
                    cases h6
                    by_cases hk : k < 258
                    · rw [if_pos hk] at hex
                      split at hex
                      · rename_i idx p1 zz hzz
                        simp only [Bool.and_eq_true, beq_iff_eq] at hex
                        obtain ⟨⟨x1, x2⟩, x3⟩ := hex
                        split at x3
                        · have hna : sNA k = mA zz := by unfold sNA; rw [hzz]
                          have how : sOwn k = mI zz := by unfold sOwn; rw [hzz]
                          have hm := hmet k _ h y.1 y.2 zz hk hzz h3 (by omega)
                          rw [h7, hw2]
                          rw [hci, how] at hob
                          exact s_callVirt E S hsl ac hob (hgood k zz hk hzz) x1 (sWi_in x2) (sWi_in x3) hm (h8.trans hna) hcat hRf hRl (by omega) (by omega) (by omega) hd (knx ls rfl)
                        · cases x3
                      · cases hex
                    · rw [if_neg hk] at hex
                      split at hex
                      · simp only [Bool.and_eq_true, decide_eq_true_eq] at hex
                        omega
                      · cases hex
                  · cases h6
                · cases h6
              · cases h6
            · rename_i hk0
              obtain ⟨w, h5, h6⟩ := Option.bind_eq_some_iff.mp h1
              obtain ⟨h7, h8⟩ := sPop_of h5
              split at h6
              · rename_i o rr hw2
                split at h6
                · rename_i ci fs hob
                  split at h6
                  · rename_i hci
                    cases h6
                    rw [if_neg (by omega)] at hex
                    split at hex
                    · simp only [Bool.and_eq_true, decide_eq_true_eq] at hex
                      obtain ⟨⟨x1, x2⟩, x3⟩ := hex
                      obtain ⟨zz, zx, e1, a1, a2, a3, a4, -⟩ := sFam_of x1 x2 hci.2 hci.1
                      have hm := hmet _ _ h y.1 y.2 zz a1 e1 h3 (by omega)
                      rw [h7, hw2]
                      exact s_callFam E S hsl ac x1 x2 hci.2 hci.1 hob e1 (hgood _ zz a1 e1) (sWi_in x3) hm (h8.trans (by unfold sVt; rfl)) hcat hRf hRl (by omega) (by omega) (by omega) hd (knx ls rfl)
                    · cases hex
                  · cases h6
                · cases h6
              · cases h6
          · rename_i k cnt
            obtain ⟨w, h5, h6⟩ := Option.bind_eq_some_iff.mp h1
            obtain ⟨h7, h8⟩ := sPop_of h5
            have hlen := hln.resolve_left (fun z => by cases z)
            subst hlen
            split at h6
            · rename_i o rr hw2
              split at h6
              · rename_i ho
                replace h6 := Option.some.inj h6
                subst h6
                obtain ⟨i, hi7, rfl⟩ := s_out_i ho
                simp only [sExt] at hex
                split at hex
                · rename_i idx p1
                  obtain ⟨y1, y2⟩ := y
                  cases d with
                  | zero => cases h3
                  | succ d =>
                    rw [sCall] at h3
                    simp only [Bool.or_eq_true, Bool.and_eq_true, beq_iff_eq] at hex
                    rw [h7, hw2]
                    rcases hex with ⟨rfl, hex⟩ | ⟨rfl, hex⟩
                    · rw [if_pos (show 300 ≤ 3000 - 2700 by decide)] at h3
                      have hw1 : w.1 = [] := List.length_eq_zero_iff.mp h8
                      rw [hw1] at h3 knx ⊢
                      unfold sStC at h3
                      dsimp only at h3
                      split at h3
                      · rename_i hg
                        cases h3
                        rw [Nat.add_sub_cancel_left] at knx
                        exact s_callLen E S hsl ac hg.2.1 hi7 (sWi_in hex) hcat (by omega) (by omega) (by omega) (by omega) (by omega) hd (knx ls rfl)
                      · cases h3
                    · rw [if_pos (show 300 ≤ 3001 - 2700 by decide)] at h3
                      obtain ⟨v0, hw1⟩ := List.length_eq_one_iff.mp h8
                      rw [hw1] at h3 knx ⊢
                      unfold sStC at h3
                      dsimp only at h3
                      split at h3
                      · rename_i x e0
                        cases e0
                      · rename_i a x e0
                        cases e0
                        split at h3
                        · rename_i hg
                          cases h3
                          obtain ⟨g5, g6, g7, g8⟩ := hg
                          rw [Nat.add_sub_cancel_left] at knx g8
                          exact s_callCh E S hsl ac g6 hi7 g8 (sWi_in hex) hcat (by omega) (by omega) (by omega) (by omega) (by omega) hd (knx ls rfl)
                        · cases h3
                      · cases h3
                · cases hex
              · cases h6
            · cases h6
          · cases h1
        · cases h2
      · rename_i hk5
        split at hr
        · rename_i hcat
          obtain ⟨st1, h1, h2⟩ := Option.bind_eq_some_iff.mp hr
          have hni : ins ≠ .nop := fun z => by rw [z] at h1; cases h1
          obtain ⟨r, len, hd, hln, hex⟩ := sChkE_of hq hF hni
          have g1 := hle0.1
          have g2 := hle0.2
          exact s_spec E hl.2.2.1 (by assumption) h1 hcat hd hln hex (by omega) (by omega) (by omega) (by omega) (ih _ _ _ _ _ _ _ _ _ h2 S hl ac as)
        · cases hr
theorem s_met (l : Launch) (base : Nat) (b : Nat → Nat) (D : va_G) (dA : Nat → ClassId) : ∀ (d n k : Nat) (as : List Value) (h : sHp) (r : Option Value) (h' : sHp) (q : sMt), k < 258 → sM k = some q → sCall d n k as h = some (r, h') → h'.length ≤ 1000000 → sMet l base b D dA d q as h r h' := by
  intro d
  induction d with
  | zero => intro n k as h r h' q _ _ hr; cases hr
  | succ d ih =>
    intro n k as h r h' q hk hq hr hl
    have hle := sCall_le _ _ _ _ _ _ _ hr
    rw [sCall, if_neg (by omega)] at hr
    obtain ⟨q', h1, h2⟩ := Option.bind_eq_some_iff.mp hr
    cases hq.symm.trans h1
    obtain ⟨L, h3, h4⟩ := Option.bind_eq_some_iff.mp h2
    obtain ⟨hm, he⟩ := sOk_m k hk q hq
    refine Met.ofW (cc := mC q) (maxL := mN q) (ret := mR q) (sChkM_of hm).2.2.2.2.1 rfl ?_
    intro p e s m args below meth c s₁ B hml hv
    obtain ⟨rfl, hsz, hP, hK, hN, hOu⟩ := hv
    have hts : ∀ w ∈ sTB, w.before ((as.map (rV (sAd base b))).toArray) s = true := fun w hw => atoms_spec (ws := sWs q) B.pre w (List.mem_cons_of_mem _ hw)
    have hown : s.vm.findClass (mY q).cls = some m.cls := findClass_of_methodNamed B.named
    have hnm : (mY q).name = "<init>" → meth.name = "<init>" := fun z => ((name_of_methodNamed B.named B.method).1).trans z
    rw [lg_entry_eq]
    have g1 := hle.1
    have g2 := hle.2
    refine s_run (d := d) (nf := n) (X := none) (sl0 := sSl h) (hf := h') (v := r) he ⟨B.exec, B.bytes, hml, hown, hts, hK, by omega, hN, hOu⟩ hnm ((fun _ _ z => by cases z)) (by show d + 1 ≤ d + 1; omega) (by show 39 * (d + 1) ≤ 39 * (d + 1); omega) (fun k z hk hz => (sOk_m k hk z hz).1) (fun k as h r h' z hk hz => ih n k as h r h' z hk hz) hl (by show base + h'.length ≤ s.heap.size + (h'.length - h.length); omega) (by show sSl h' ≤ sSl h + (sSl h' - sSl h); omega) ?_ n 0 L [] h s.heap _ [] 0 0 h4 ⟨hP, va_S.rf, by omega⟩ (s_ini h3) (by omega) (by omega)
    intro pc' ins ls' st' H' locs' cells' slots' q1 q2 q3 q4 q5
    obtain rfl : cells' = h'.length - h.length := by omega
    obtain rfl : slots' = sSl h' - sSl h := by omega
    exact s_ret B.exec B.bytes q1 B.returns B.notSynchronized (fun t ht _ => ⟨⟨rfl, by rw [ht]; exact q3.1⟩, q3.2.1.F ht⟩) q3.2.1.2.2 q2
end ALL
end
