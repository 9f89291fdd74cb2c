/-! ===== the run: calls, and all of it ===== -/
theorem sChkM_of {q : sMt} (h : sChkM q = true) : Jvm.Cond.code (mY q) (mC q) (mN q) (mR q) ∈ sTB ∧ Jvm.Cond.initialized (mY q).cls ∈ sTB ∧ (mK q = 0 → Jvm.Cond.static (mY q) ∈ sTB) ∧ (mK q ≠ 0 → Jvm.Cond.instanceMethod (mY q) ∈ sTB) ∧ Jvm.plainName (mY q).cls = true ∧ ((mY q).cls ≠ "java/lang/invoke/MethodHandle" ∧ (mY q).cls ≠ "java/lang/invoke/VarHandle" ∧ (parseMethodDescriptor (mY q).desc).map (fun d => d.parameters.length) = some (mA q)) ∧ mN q ≤ 16 ∧ (mK q = 2 → (mY q).name = "<init>" ∧ mR q = none) ∧ (mK q = 1 → (mY q).name ≠ "<init>") ∧ (mK q ≠ 0 → vwCl[mI q]?.map (fun z => z.1) = some (mY q).cls) := by
  unfold sChkM at h
  simp only [Bool.and_eq_true] at h
  obtain ⟨h1, h2, h3, h4, h5, h6, h7⟩ := h
  split at h1
  · simp only [Bool.and_eq_true] at h1
    obtain ⟨a1, a2, a3⟩ := h1
    refine ⟨sWi_in a1, sWi_in a2, fun e => ?_, fun e => ?_, h2, of_decide_eq_true h3, of_decide_eq_true h4, of_decide_eq_true h5, of_decide_eq_true h6, of_decide_eq_true h7⟩
    · rw [if_pos e] at a3; exact sWi_in a3
    · rw [if_neg e] at a3; exact sWi_in a3
  · cases h1
theorem sFt_of {q : sMt} {pc : Nat} {ins : Instr} (h : sFt q pc = some ins) : ∃ e ∈ mT q, e.1 = pc ∧ e.2.2.1 = ins := by
  unfold sFt at h
  split at h
  · rename_i e he
    cases h
    exact ⟨e, List.mem_of_find?_eq_some he, by have := List.find?_some he; exact beq_iff_eq.mp this, rfl⟩
  · cases h
theorem sChkE_of {q : sMt} {pc : Nat} {ins : Instr} (hq : ∀ e ∈ mT q, sChkE q e = true) (h : sFt q pc = some ins) (hn : ins ≠ .nop) : ∃ (r : List Nat) (len : Nat), decode (mC q) pc = .ok (sReal ins r, len) ∧ (sSw ins = true ∨ len = sLen ins) ∧ sExt (mY q).cls (mY q).name ins r = true := by
  obtain ⟨e, he, h1, h2⟩ := sFt_of h
  have hc := hq e he
  unfold sChkE at hc
  split at hc
  · rename_i e2
    exact absurd (h2.symm.trans e2) hn
  · simp only [Bool.and_eq_true, Bool.or_eq_true, decide_eq_true_eq] at hc
    obtain ⟨a1, a2, a3⟩ := hc
    rw [h1, h2] at a1
    rw [h2] at a2 a3
    exact ⟨e.2.2.2, e.2.1, a1, a2, a3⟩
theorem sPure_real {ins : Instr} {st st' : List Value} (h : sPure ins st = some st') (r : List Nat) : sReal ins r = ins ∧ sSw ins = false ∧ ins ≠ .nop := by
  unfold sPure at h
  split at h <;> first | (cases h; done) | exact ⟨rfl, rfl, (fun z => by cases z)⟩
theorem sLoc_real {ins : Instr} {L : sLo} {st : List Value} {z : sLo × List Value} (h : sLoc ins L st = some z) (r : List Nat) : sReal ins r = ins ∧ sSw ins = false ∧ ins ≠ .nop := by
  unfold sLoc at h
  split at h <;> first | (cases h; done) | exact ⟨rfl, rfl, (fun z => by cases z)⟩
theorem sRet_real {rt : Option FieldType} {ins : Instr} {st : List Value} {z : Option Value} (h : sRet rt ins st = some z) (r : List Nat) : sReal ins r = ins ∧ sSw ins = false ∧ ins ≠ .nop ∧ sLen ins = 1 := by
  unfold sRet at h
  split at h <;> first | (cases h; done) | exact ⟨rfl, rfl, (fun z => by cases z), rfl⟩
theorem sJmp_real {ins : Instr} {pc : Nat} {st : List Value} {z : Nat × List Value} (h : sJmp ins pc st = some z) (r : List Nat) : sReal ins r = ins ∧ ins ≠ .nop ∧ ((∃ d lo hi o, ins = .tableswitch d lo hi o) ∨ (∃ d ps, ins = .lookupswitch d ps) ∨ (sSw ins = false ∧ sLen ins = 3 ∧ ∀ d ps, ins ≠ .lookupswitch d ps)) := by
  unfold sJmp at h
  split at h
  · exact ⟨rfl, (fun z => by cases z), Or.inr (Or.inr ⟨rfl, rfl, (fun _ _ z => by cases z)⟩)⟩
  · exact ⟨rfl, (fun z => by cases z), Or.inr (Or.inr ⟨rfl, rfl, (fun _ _ z => by cases z)⟩)⟩
  · exact ⟨rfl, (fun z => by cases z), Or.inr (Or.inr ⟨rfl, rfl, (fun _ _ z => by cases z)⟩)⟩
  · exact ⟨rfl, (fun z => by cases z), Or.inr (Or.inr ⟨rfl, rfl, (fun _ _ z => by cases z)⟩)⟩
  · exact ⟨rfl, (fun z => by cases z), Or.inr (Or.inr ⟨rfl, rfl, (fun _ _ z => by cases z)⟩)⟩
  · exact ⟨rfl, (fun z => by cases z), Or.inl ⟨_, _, _, _, rfl⟩⟩
  · exact ⟨rfl, (fun z => by cases z), Or.inr (Or.inl ⟨_, _, rfl⟩)⟩
  · cases h
theorem sHeap_nop {ins : Instr} {st : List Value} {h : sHp} {z : List Value × sHp} (hh : sHeap ins st h = some z) : ins ≠ .nop ∧ sSw ins = false := by
  unfold sHeap at hh
  split at hh <;> first | exact ⟨(fun z => by cases z), rfl⟩ | (cases hh; done)
section RUN
variable {p : Program} {l : Launch} {e : Env} {R : Room} {s : State} {m : MethodId} {args : Array Value} {below : List Frame} {meth : Method} {c : Code} {H : Heap} {locs : List Loc} {cells slots : Nat} {Q : State → Prop} {cc : ByteArray} {pc : Nat} {ls : Array Slot} {nL base : Nat} {b : Nat → Nat} {D : va_G} {dA : Nat → ClassId} {own : String}
def sPre (base : Nat) (b : Nat → Nat) (D : va_G) (dA : Nat → ClassId) (h : sHp) : State → Prop := fun U => U.heap.size = base + h.length ∧ va_P D vwCl (rW (sAd base b) dA h) U.heap ∧ va_K D vwCl (sTys dA) U ∧ sNw U ∧ sOuw base b U U.heap
def sQ (base : Nat) (b : Nat → Nat) (D : va_G) (dA : Nat → ClassId) (r : Option Value) (h' : sHp) : Array Value → State → Outcome → State → Prop := fun _ st oc t => (oc = .returned (r.map (rV (sAd base b))) ∧ va_P D vwCl (rW (sAd base b) dA h') t.heap) ∧ va_F (fun q => base ≤ q) st t
def sWs (q : sMt) : List Jvm.Cond := .code (mY q) (mC q) (mN q) (mR q) :: sTB
def sRm (d mc ms : Nat) : Room := { frames := d, cells := mc, slots := ms, locals := 39 * d }
def sMet (l : Launch) (base : Nat) (b : Nat → Nat) (D : va_G) (dA : Nat → ClassId) (d : Nat) (q : sMt) (as : List Value) (h : sHp) (r : Option Value) (h' : sHp) : Prop :=
  Met l (mY q) (sWs q) (sRm d (h'.length - h.length) (sSl h' - sSl h)) (va_Pc (as.map (rV (sAd base b))) (sPre base b D dA h)) (sQ base b D dA r h') (h'.length - h.length) (sSl h' - sSl h) (fun q => base ≤ q)
theorem s_blind {as : List Value} {h : sHp} : FrameBlind (va_Pc as (sPre base b D dA h)) := by
  intro a U g mk hv
  obtain ⟨e1, e2, e3, e4, e5, e6⟩ := hv
  exact ⟨e1, e2, e3, va_K.moved (u := U) (U := U.calling g mk a) (Vm.Alike.refl U.vm) e4, sNw_same (u := U) rfl e5, sOuw_same (s := U) rfl e6⟩
theorem s_back {mc ms : Nat} {a : Array Value} {r : Option Value} {h' : sHp} {st0 rest : List Value} (hr : va_Run p l e R s m args below meth c H locs cells slots mc ms (F0 m pc ls st0) rest (sQ base b D dA r h' a) (fun q => base ≤ q)) (hS : va_S (fun q => base ≤ q) s.heap H locs)
    (kk : ∀ (H1 : Heap) (locs1 : List Loc), va_P D vwCl (rW (sAd base b) dA h') H1 → va_S (fun q => base ≤ q) s.heap H1 locs1 → W p l e R s m args below meth c H1 locs1 (cells + mc) (slots + ms) Q (F0 m (pc + 3) ls ((r.map (rV (sAd base b))).toList ++ rest))) : W p l e R s m args below meth c H locs cells slots Q (F0 m pc ls st0) := by
  intro T hT X
  obtain ⟨v, st₀, t, T', L, h0, X', hL, e1, e2, ⟨⟨hv, hP⟩, hz, hk⟩, st⟩ := hr T hT X
  cases hv
  rw [h0] at hz hk
  obtain ⟨t2, a1, b1⟩ := kk T'.heap (locs ++ L) (by rw [e1]; exact hP) ⟨Nat.le_trans hS.1 (by rw [e1]; exact hz), fun q h1 h2 => by rw [e1, hk q (Nat.lt_of_lt_of_le h1 hS.1) h2]; exact hS.2.1 q h1 h2, fun q hq => by
      rcases List.mem_append.mp hq with h | h
      · exact hS.2.2 q h
      · exact hL q h⟩ T' rfl X'
  exact ⟨t2, st t2 a1, b1⟩
theorem sPop_of {n : Nat} {st : List Value} {z : List Value × List Value} (h : sPop n st = some z) : st = z.1.reverse ++ z.2 ∧ z.1.length = n := by
  unfold sPop at h
  split at h
  · rename_i hn
    cases h
    exact ⟨by simp, by simp; omega⟩
  · cases h
theorem rS_cat (σ : Nat → Nat) (st : List Value) : (rS σ st).map (fun v => v.category) = st.map (fun v => v.category) := by
  unfold rS
  rw [List.map_map]
  exact List.map_congr_left fun v _ => rV_cat σ v
theorem rS_back (σ : Nat → Nat) (r : Option Value) (st : List Value) : (r.map (rV σ)).toList ++ rS σ st = rS σ (r.toList ++ st) := by cases r <;> rfl
theorem sWs_in {q : sMt} (h : sChkM q = true) : ∀ w ∈ sWs q, w ∈ sTB := by
  intro w hw
  rcases List.mem_cons.mp hw with rfl | hw
  · exact (sChkM_of h).1
  · exact hw
/-- what every call needs, and what comes behind it -/
def sNext (p : Program) (l : Launch) (e : Env) (R : Room) (s : State) (m : MethodId) (args : Array Value) (below : List Frame) (meth : Method) (c : Code) (cells slots : Nat) (Q : State → Prop) (pc : Nat) (ls : Array Slot) (base : Nat) (b : Nat → Nat) (D : va_G) (dA : Nat → ClassId) (h : sHp) (r : Option Value) (h' : sHp) (rest : List Value) : Prop :=
  ∀ (H1 : Heap) (locs1 : List Loc), sSt base b D dA s h' H1 locs1 → W p l e R s m args below meth c H1 locs1 (cells + (h'.length - h.length)) (slots + (sSl h' - sSl h)) Q (F0 m (pc + 3) ls (rS (sAd base b) (r.toList ++ rest)))
theorem s_pre (E : sEnv p s m c args cc nL base b D dA own) {h : sHp} (S : sSt base b D dA s h H locs) (hH : H.size = base + h.length) (as : List Value) : ∀ U : State, U.heap = H → s.WarmedH U.vm → va_Pc as (sPre base b D dA h) as.toArray U := by
  obtain ⟨hx, hb, hml, hown, hts, hK, hbs, hnw, hou⟩ := E
  intro U hU hW
  exact ⟨rfl, by rw [hU]; exact hH, by rw [hU]; exact S.1, va_K.moved hW.alike hK, sNw_warm hW hnw, by rw [hU]; exact sOuw_warm hW (sOuw_kept S.2.1.2.1 hou)⟩
theorem s_callStatic (E : sEnv p s m c args cc nL base b D dA own) {h h' : sHp} (S : sSt base b D dA s h H locs) (hsl : ls.size = nL) (ac : s.heap.size + cells = base + h.length) {d idx : Nat} {z : sMt} {as rest : List Value} {r : Option Value} (hz : sChkM z = true) (h0 : mK z = 0) (hl : Jvm.Cond.methodLink own idx (mY z) ∈ sTB) (hM : sMet l base b D dA d z as h r h') (hn : as.length = mA z) (hcat : (rest.map (fun v => v.category)).sum ≤ 8)
    (hRf : d + 1 ≤ R.frames) (hRl : 39 * (d + 1) ≤ R.locals) (hc : cells + (h'.length - h.length) ≤ R.cells) (hs : slots + (sSl h' - sSl h) ≤ R.slots) (hl1 : h'.length ≤ 1000000) (hdg : decode cc pc = .ok (.invokestatic idx, 3))
    (kk : sNext p l e R s m args below meth c cells slots Q pc ls base b D dA h r h' rest) : W p l e R s m args below meth c H locs cells slots Q (F0 m pc ls (rS (sAd base b) (as.reverse ++ rest))) := by
  obtain ⟨hx, hb, hml, hown, hts, hK, hbs, hnw, hou⟩ := id E
  obtain ⟨f1, f2, f3, f4, f5, f6, f7, f8, f9, f10⟩ := sChkM_of hz
  refine W_size fun hzz => ?_
  have hH := s_size S hbs ac hzz
  have hr := va_runS (p := p) (l := l) (e := e) (R := R) (below := below) (meth := meth) (locs := locs) (cells := cells) (slots := slots) (As := rS (sAd base b) as) (rest := rS (sAd base b) rest) (g := F0 m pc ls (rS (sAd base b) (as.reverse ++ rest))) ⟨hx, hb, hml, hown, hts⟩ hM (va_cwS (mA z) hts (sTB_in (fun w hw => by
    rcases List.mem_append.mp hw with hw | hw
    · simp only [List.mem_cons, List.not_mem_nil, or_false] at hw
      rcases hw with rfl | rfl | rfl
      · exact hl
      · exact f3 h0
      · exact f2
    · exact sWs_in hz w hw)) rfl rfl rfl f6 ⟨hRf, by show 8 + (mN z + 11) + 39 * d ≤ _; omega⟩) ⟨s_blind, s_pre E S hH _⟩ rfl (by rw [List.length_map]; exact hn) hsl (by rw [rS, List.map_append, List.map_reverse]) (lv_room (by rw [rS_cat]; exact hcat)) hdg ⟨hc, hs⟩
  refine s_back hr S.2.1 fun H1 l1 P1 S1 => ?_
  rw [rS_back]
  exact kk H1 l1 ⟨P1, S1, hl1⟩
theorem s_callInit (E : sEnv p s m c args cc nL base b D dA own) {h h' : sHp} (S : sSt base b D dA s h H locs) (hsl : ls.size = nL) (ac : s.heap.size + cells = base + h.length) {d idx o : Nat} {z : sMt} {as rest : List Value} {r : Option Value} (hz : sChkM z = true) (h0 : mK z = 2) (hl : Jvm.Cond.methodLink own idx (mY z) ∈ sTB ∨ Jvm.Cond.methodLinkNest own idx (mY z) RX11 ∈ sNwl) (hM : sMet l base b D dA d z (.ref o :: as) h r h') (hn : as.length = mA z) (hcat : (rest.map (fun v => v.category)).sum ≤ 8)
    (hRf : d + 1 ≤ R.frames) (hRl : 39 * (d + 1) ≤ R.locals) (hc : cells + (h'.length - h.length) ≤ R.cells) (hs : slots + (sSl h' - sSl h) ≤ R.slots) (hl1 : h'.length ≤ 1000000) (hdg : decode cc pc = .ok (.invokespecial idx, 3))
    (kk : sNext p l e R s m args below meth c cells slots Q pc ls base b D dA h r h' rest) : W p l e R s m args below meth c H locs cells slots Q (F0 m pc ls (rS (sAd base b) (as.reverse ++ .ref o :: rest))) := by
  obtain ⟨hx, hb, hml, hown, hts, hK, hbs, hnw, hou⟩ := id E
  obtain ⟨f1, f2, f3, f4, f5, f6, f7, f8, f9, f10⟩ := sChkM_of hz
  obtain ⟨g1, g2⟩ := f8 h0
  refine W_size fun hzz => ?_
  have hH := s_size S hbs ac hzz
  have hin : Jvm.Cond.instanceMethod (mY z) ∈ sTB := f4 (by rw [h0]; decide)
  have hw : sWs z = Jvm.Cond.code (mY z) (mC z) (mN z) none :: sTB := by unfold sWs; rw [g2]
  have hroom : (sRm d (h'.length - h.length) (sSl h' - sSl h)).frames + 1 ≤ R.frames ∧ 8 + (mN z + 11) + (sRm d (h'.length - h.length) (sSl h' - sSl h)).locals ≤ R.locals := ⟨hRf, by show 8 + (mN z + 11) + 39 * d ≤ _; omega⟩
  have hst : rS (sAd base b) (as.reverse ++ .ref o :: rest) = (rS (sAd base b) as).reverse ++ .ref (sAd base b o) :: rS (sAd base b) rest := by rw [rS, List.map_append, List.map_reverse]; rfl
  rcases hl with hl | hl
  · have hr := va_runI (p := p) (l := l) (e := e) (R := R) (below := below) (meth := meth) (locs := locs) (cells := cells) (slots := slots) (As := rS (sAd base b) as) (rest := rS (sAd base b) rest) (g := F0 m pc ls (rS (sAd base b) (as.reverse ++ .ref o :: rest))) ⟨hx, hb, hml, hown, hts⟩ hM (cwI (mA z) hts (sTB_in (sWs_in hz)) hw rfl rfl (hts _ f2) (hts _ hl) (hts _ hin) g1 f6 hroom) ⟨s_blind, s_pre E S hH _⟩ rfl (by rw [List.length_map]; exact hn) hsl hst (lv_room (by rw [rS_cat]; exact hcat)) hdg ⟨hc, hs⟩
    refine s_back hr S.2.1 fun H1 l1 P1 S1 => ?_
    rw [rS_back]
    exact kk H1 l1 ⟨P1, S1, hl1⟩
  · have hr := va_runIN (p := p) (l := l) (e := e) (R := R) (below := below) (meth := meth) (locs := locs) (cells := cells) (slots := slots) (As := rS (sAd base b) as) (rest := rS (sAd base b) rest) (g := F0 m pc ls (rS (sAd base b) (as.reverse ++ .ref o :: rest))) ⟨hx, hb, hml, hown, hts⟩ hM ⟨va_cnB (mA z) hts (sTB_in (sWs_in hz)) hw rfl rfl (hnw _ hl) (hts _ f2) f6 hroom, g1, hts _ hin⟩ ⟨s_blind, s_pre E S hH _⟩ rfl (by rw [List.length_map]; exact hn) hsl hst (lv_room (by rw [rS_cat]; exact hcat)) hdg ⟨hc, hs⟩
    refine s_back hr S.2.1 fun H1 l1 P1 S1 => ?_
    rw [rS_back]
    exact kk H1 l1 ⟨P1, S1, hl1⟩
theorem s_recv (E : sEnv p s m c args cc nL base b D dA own) {h : sHp} (S : sSt base b D dA s h H locs) {o ci : Nat} {fs : List Value} (ho : h[o]? = some (.inr (ci, fs))) : ∃ q, vwCl[ci]? = some q ∧ (∃ cell : Cell, H[sAd base b o]? = some cell ∧ cell.vm.isStatics = false ∧ s.vm.findClass q.1 = some cell.cls) ∧ ClassAt s q.1 (D.1 ci) := by
  obtain ⟨hx, hb, hml, hown, hts, hK, hbs, hnw, hou⟩ := E
  obtain ⟨q, hq⟩ := s_cls S ho
  exact ⟨q, hq, va_recv hK S.1 hq (rW_at ho), (hK.1 ci q hq).2⟩
theorem s_callUp (E : sEnv p s m c args cc nL base b D dA own) {h h' : sHp} (S : sSt base b D dA s h H locs) (hsl : ls.size = nL) (ac : s.heap.size + cells = base + h.length) {d idx o ci : Nat} {fs : List Value} (ho : h[o]? = some (.inr (ci, fs))) {z : sMt} {as rest : List Value} {r : Option Value} (hz : sChkM z = true) (h0 : mK z = 1) (hl : Jvm.Cond.methodLink own idx (mY z) ∈ sTB) (hl2 : Jvm.Cond.sameMethod (mY z).cls (mY z).cls (mY z).name (mY z).desc ∈ sTB) (hl3 : Jvm.Cond.superclass own (mY z).cls ∈ sTB) (hM : sMet l base b D dA d z (.ref o :: as) h r h') (hn : as.length = mA z) (hcat : (rest.map (fun v => v.category)).sum ≤ 8)
    (hRf : d + 1 ≤ R.frames) (hRl : 39 * (d + 1) ≤ R.locals) (hc : cells + (h'.length - h.length) ≤ R.cells) (hs : slots + (sSl h' - sSl h) ≤ R.slots) (hl1 : h'.length ≤ 1000000) (hdg : decode cc pc = .ok (.invokespecial idx, 3))
    (kk : sNext p l e R s m args below meth c cells slots Q pc ls base b D dA h r h' rest) : W p l e R s m args below meth c H locs cells slots Q (F0 m pc ls (rS (sAd base b) (as.reverse ++ .ref o :: rest))) := by
  obtain ⟨hx, hb, hml, hown, hts, hK, hbs, hnw, hou⟩ := id E
  obtain ⟨f1, f2, f3, f4, f5, f6, f7, f8, f9, f10⟩ := sChkM_of hz
  obtain ⟨q, hq, hrc, hat⟩ := s_recv E S ho
  refine W_size fun hzz => ?_
  have hH := s_size S hbs ac hzz
  have hin : Jvm.Cond.instanceMethod (mY z) ∈ sTB := f4 (by rw [h0]; decide)
  have hroom : (sRm d (h'.length - h.length) (sSl h' - sSl h)).frames + 1 ≤ R.frames ∧ 8 + (mN z + 11) + (sRm d (h'.length - h.length) (sSl h' - sSl h)).locals ≤ R.locals := ⟨hRf, by show 8 + (mN z + 11) + 39 * d ≤ _; omega⟩
  have hst : rS (sAd base b) (as.reverse ++ .ref o :: rest) = (rS (sAd base b) as).reverse ++ .ref (sAd base b o) :: rS (sAd base b) rest := by rw [rS, List.map_append, List.map_reverse]; rfl
  have hr := va_runSU (p := p) (l := l) (e := e) (R := R) (below := below) (meth := meth) (locs := locs) (cells := cells) (slots := slots) (As := rS (sAd base b) as) (rest := rS (sAd base b) rest) (g := F0 m pc ls (rS (sAd base b) (as.reverse ++ .ref o :: rest))) hat ⟨hx, hb, hml, hown, hts⟩ hM (va_cwSU (mA z) hts (sTB_in (fun w hw => by
    rcases List.mem_append.mp hw with hw | hw
    · simp only [List.mem_cons, List.not_mem_nil, or_false] at hw
      rcases hw with rfl | rfl | rfl | rfl | rfl
      · exact hl
      · exact hl2
      · exact hl3
      · exact hin
      · exact f2
    · exact sWs_in hz w hw)) rfl rfl rfl ⟨f9 h0, f6.2.2⟩ hroom) ⟨s_blind, hrc, s_pre E S hH _⟩ rfl (by rw [List.length_map]; exact hn) hsl hst (lv_room (by rw [rS_cat]; exact hcat)) hdg ⟨hc, hs⟩
  refine s_back hr S.2.1 fun H1 l1 P1 S1 => ?_
  rw [rS_back]
  exact kk H1 l1 ⟨P1, S1, hl1⟩
theorem s_isSub {vm : Vm} {a c : ClassId} {k : Class} (h1 : vm.classes[a]? = some k) (h2 : k.super = some c) : vm.isSubclass a c = true := by
  have hp : 0 < vm.classes.size := Nat.lt_of_le_of_lt (Nat.zero_le _) (Array.getElem?_eq_some_iff.mp h1).1
  obtain ⟨n, hn⟩ : ∃ n, vm.classes.size = n + 1 := ⟨vm.classes.size - 1, by omega⟩
  unfold Vm.isSubclass
  rw [hn]
  simp [Vm.isSubclassAux, h1, h2]
theorem s_callSU2 {T : State} (X : Stand p l e R s m args below meth c T locs cells slots) (hexec : p.tables.exec = Jvm.exec) {xc : String} {index : Nat} {y : MethodName} {bytes : ByteArray} {maxL : Nat} {ret : Option FieldType}
    (hown : s.vm.findClass own = some m.cls) (hlink : (Jvm.Cond.methodLink own index ⟨xc, y.name, y.desc⟩).before args s = true) (hsame : (Jvm.Cond.sameMethod xc y.cls y.name y.desc).before args s = true) (hsup : (Jvm.Cond.superclass own xc).before args s = true) (hsup2 : (Jvm.Cond.superclass xc y.cls).before args s = true)
    (hinst : (Jvm.Cond.instanceMethod y).before args s = true) (hcode : (Jvm.Cond.code y bytes maxL ret).before args s = true) (hno : y.name ≠ "<init>")
    {W : Nat} {Pre : Pt → Array Value → Prop} {Post : Pt → Array Value → Option Value → Pt → Prop} (hK : Back l R p e below s args y 3 W Pre Post)
    {b : Addr} {cellB : Cell} {kB : Class} (hcell : T.heap[b]? = some cellB) (hobj : cellB.vm.isStatics = false) (hkB : s.vm.classes[cellB.cls]? = some kB)
    {g : JFrame} (hg : g.method = m) (hsize : g.locals.size = c.maxLocals) {argsL rest : List Value} (hlen : ∀ sig, parseMethodDescriptor y.desc = some sig → argsL.length = sig.parameters.length)
    (hstack : g.stack = argsL.reverse ++ .ref b :: rest) (hW : 2 * g.monitorRoom + (rest.map fun v => v.category).sum ≤ W) (hdg : decode c.code g.pc = .ok (.invokespecial index, 3))
    (hpre : ∀ vm₁, s.WarmedH vm₁ → Pre ⟨T.setVm vm₁, locs, cells, slots⟩ (Value.ref b :: argsL).toArray) :
    ∃ (v : Option Value) (vm₁ : Vm) (B : Pt), s.WarmedH vm₁ ∧ Stand p l e R s m args below meth c B.U B.locs B.cells B.slots ∧ Post ⟨T.setVm vm₁, locs, cells, slots⟩ (Value.ref b :: argsL).toArray v B ∧
      ∀ target, Steps p.tables e below (B.U.setTop { g with pc := g.pc + 3, stack := v.toList ++ rest }) target → Steps p.tables e below (T.setTop g) target := by
  obtain ⟨mk, methM, hnamed, hmethM, hstM, habM⟩ := Cond.instanceMethod_spec hinst
  obtain ⟨methM', cM, hmethM', -, -, -, -, -, -, hsigM⟩ := Cond.code_spec hnamed hcode
  cases hmethM.symm.trans hmethM'
  obtain ⟨ps, dk, kp, hps, hdk, hkp, hsuper, -, -, hnid⟩ := Cond.superclass_spec hown hsup
  obtain ⟨ps2, dk2, kp2, hps2, hdk2, hkp2, hsuper2, -, -, -⟩ := Cond.superclass_spec hps hsup2
  have hn : s.methodNamed? ⟨y.cls, y.name, y.desc⟩ = some mk := hnamed
  have hpm : ps2 = mk.cls := Option.some.inj (hps2.symm.trans (findClass_of_methodNamed hnamed))
  have hsub : s.vm.isSubclass ps mk.cls = true := by rw [← hpm]; exact s_isSub hdk2 hsuper2
  obtain ⟨vm₁, X₁, hstep₁⟩ := X.invokespecialUp (x := ⟨xc, y.name, y.desc⟩) hexec hown hlink hsame hn hmethM hstM habM hno hdk hnid hps hsuper hsub (a := b) (cell := cellB) hcell
    (fun z h => by rw [h] at hobj; cases hobj) hkB (g := g) hg (argsL := argsL) (rest := rest) (hlen _ hsigM) hstack hdg
  obtain ⟨v, B, X', hpost, hsteps⟩ := hK m meth c ⟨T.setVm vm₁, locs, cells, slots⟩ { g with stack := rest } (.invokespecial index) mk (Value.ref b :: argsL).toArray X₁ hg hsize hdg hW (X₁.named hnamed) (hpre vm₁ X₁.warmed)
  exact ⟨v, vm₁, B, X₁.warmed, X', hpost, fun target h => hstep₁ _ (by rw [doInvoke_state]; exact hsteps.trans h)⟩
theorem s_runSU2 {y : MethodName} {bytes : ByteArray} {maxL mc ms n index : Nat} {ret : Option FieldType} {ws : List Jvm.Cond} {rm : Room} {Pc : Array Value → State → Prop} {Qc : Array Value → State → Outcome → State → Prop} {free : Addr → Prop} {Ts : List Jvm.Cond} {xc C : String} {cC : ClassId} {b : Addr} {As rest : List Value} {g : JFrame}
    (hat : ClassAt s C cC) (S : CallFix p m c cc nL s args Ts own) (hM : Met l y ws rm Pc Qc mc ms free) (hTs : GoodIn Ts ([.methodLink own index ⟨xc, y.name, y.desc⟩, .sameMethod xc y.cls y.name y.desc, .superclass own xc, .superclass xc y.cls, .instanceMethod y, .initialized y.cls] ++ ws)) (hcw : Jvm.Cond.code y bytes maxL ret ∈ ws) (hrc : rm.cells = mc) (hrs : rm.slots = ms) (hd : y.name ≠ "<init>" ∧ (parseMethodDescriptor y.desc).map (fun d => d.parameters.length) = some n) (hR : rm.frames + 1 ≤ R.frames ∧ 8 + (maxL + 11) + rm.locals ≤ R.locals) (hp : PreV s H C b Pc As)
    (hg : g.method = m) (hn : As.length = n) (hsize : g.locals.size = nL) (hstack : g.stack = As.reverse ++ .ref b :: rest) (hW : 2 * g.monitorRoom + (rest.map fun v => v.category).sum ≤ 8) (hdg : decode cc g.pc = .ok (.invokespecial index, 3)) (hf : cells + mc ≤ R.cells ∧ slots + ms ≤ R.slots) :
    va_Run p l e R s m args below meth c H locs cells slots mc ms g rest (Qc (Value.ref b :: As).toArray) (free) := by
  obtain ⟨hx, hb, hml, ho, ht⟩ := S
  have ok : ∀ w ∈ ([.methodLink own index ⟨xc, y.name, y.desc⟩, .sameMethod xc y.cls y.name y.desc, .superclass own xc, .superclass xc y.cls, .instanceMethod y, .initialized y.cls] : List Jvm.Cond) ++ ws, w.before args s = true := fun w h => ht w (hTs w h).1
  have hG : GoodIn Ts ws := fun w h => hTs w (List.mem_append_right _ h)
  have hini : (Jvm.Cond.initialized y.cls).before args s = true := ok _ (by simp)
  have hK : Back l R p e below s args y 3 8 (PreOf R mc ms Pc) (PostOf Qc mc ms free) := back_of (bytes := bytes) (maxL := maxL) (ret := ret) hM hp.1 hrc hrs hR.1 hR.2 (pay_in ht hG) hcw (fun a' U hW => word_at hW (Or.inl (by first | rfl | simp [Cond.onTables, Cond.keeps, Cond.steady])) hini)
  obtain ⟨-, ⟨cellB, hcB, hoB, hclB⟩, hPc⟩ := hp
  obtain ⟨hfc, kB, hkB, -⟩ := hat
  cases hfc.symm.trans hclB
  intro T hT X
  obtain ⟨v, vm₁, ⟨U', l2, c2, s2⟩, hW₁, X', ⟨g', mk, t, L, e1, e2, hq, h1, hL, h2, h3⟩, st⟩ := s_callSU2 X hx (xc := xc) (index := index) (bytes := bytes) (maxL := maxL) (ret := ret) ho (ok _ (by simp)) (ok _ (by simp)) (ok _ (by simp)) (ok _ (by simp)) (ok _ (by simp)) (ht _ (hG _ hcw).1) hd.1 hK (by rw [hT]; exact hcB) hoB hkB hg (hsize.trans hml.symm) (argsL := As) (rest := rest) (fun sig h => by
    have h2 := hd.2
    rw [h] at h2
    exact hn.trans (Option.some.inj h2).symm) hstack hW (by rw [hb]; exact hdg)
    (fun vm₁ hW₁ => ⟨hf.1, hf.2, hPc (T.setVm vm₁) hT hW₁⟩)
  dsimp only [Pt.U, Pt.locs, Pt.cells, Pt.slots] at X' e1 e2 h1 h2 h3 st
  subst h1; subst h2; subst h3
  exact ⟨v, (T.setVm vm₁).calling g' mk (Value.ref b :: As).toArray, t, U', L, hT, X', hL, e1, e2, hq, st⟩
theorem s_callUp2 (E : sEnv p s m c args cc nL base b D dA own) {h h' : sHp} (S : sSt base b D dA s h H locs) (hsl : ls.size = nL) (ac : s.heap.size + cells = base + h.length) {d idx o ci : Nat} {fs : List Value} (ho : h[o]? = some (.inr (ci, fs))) {z : sMt} {as rest : List Value} {r : Option Value} (hz : sChkM z = true) (h0 : mK z = 1) {xc : String} (hl : Jvm.Cond.methodLink own idx ⟨xc, (mY z).name, (mY z).desc⟩ ∈ sTB) (hl2 : Jvm.Cond.sameMethod xc (mY z).cls (mY z).name (mY z).desc ∈ sTB) (hl3 : Jvm.Cond.superclass own xc ∈ sTB) (hl4 : Jvm.Cond.superclass xc (mY z).cls ∈ sTB) (hM : sMet l base b D dA d z (.ref o :: as) h r h') (hn : as.length = mA z) (hcat : (rest.map (fun v => v.category)).sum ≤ 8)
    (hRf : d + 1 ≤ R.frames) (hRl : 39 * (d + 1) ≤ R.locals) (hc : cells + (h'.length - h.length) ≤ R.cells) (hs : slots + (sSl h' - sSl h) ≤ R.slots) (hl1 : h'.length ≤ 1000000) (hdg : decode cc pc = .ok (.invokespecial idx, 3))
    (kk : sNext p l e R s m args below meth c cells slots Q pc ls base b D dA h r h' rest) : W p l e R s m args below meth c H locs cells slots Q (F0 m pc ls (rS (sAd base b) (as.reverse ++ .ref o :: rest))) := by
  obtain ⟨hx, hb, hml, hown, hts, hK, hbs, hnw, hou⟩ := id E
  obtain ⟨f1, f2, f3, f4, f5, f6, f7, f8, f9, f10⟩ := sChkM_of hz
  obtain ⟨q, hq, hrc, hat⟩ := s_recv E S ho
  refine W_size fun hzz => ?_
  have hH := s_size S hbs ac hzz
  have hin : Jvm.Cond.instanceMethod (mY z) ∈ sTB := f4 (by rw [h0]; decide)
  have hroom : (sRm d (h'.length - h.length) (sSl h' - sSl h)).frames + 1 ≤ R.frames ∧ 8 + (mN z + 11) + (sRm d (h'.length - h.length) (sSl h' - sSl h)).locals ≤ R.locals := ⟨hRf, by show 8 + (mN z + 11) + 39 * d ≤ _; omega⟩
  have hst : rS (sAd base b) (as.reverse ++ .ref o :: rest) = (rS (sAd base b) as).reverse ++ .ref (sAd base b o) :: rS (sAd base b) rest := by rw [rS, List.map_append, List.map_reverse]; rfl
  have hr := s_runSU2 (p := p) (l := l) (e := e) (R := R) (below := below) (meth := meth) (locs := locs) (cells := cells) (slots := slots) (As := rS (sAd base b) as) (rest := rS (sAd base b) rest) (g := F0 m pc ls (rS (sAd base b) (as.reverse ++ .ref o :: rest))) hat ⟨hx, hb, hml, hown, hts⟩ hM (sTB_in (fun w hw => by
    rcases List.mem_append.mp hw with hw | hw
    · simp only [List.mem_cons, List.not_mem_nil, or_false] at hw
      rcases hw with rfl | rfl | rfl | rfl | rfl | rfl
      · exact hl
      · exact hl2
      · exact hl3
      · exact hl4
      · exact hin
      · exact f2
    · exact sWs_in hz w hw)) (List.mem_cons_self) rfl rfl ⟨f9 h0, f6.2.2⟩ hroom ⟨s_blind, hrc, s_pre E S hH _⟩ rfl (by rw [List.length_map]; exact hn) hsl hst (lv_room (by rw [rS_cat]; exact hcat)) hdg ⟨hc, hs⟩
  refine s_back hr S.2.1 fun H1 l1 P1 S1 => ?_
  rw [rS_back]
  exact kk H1 l1 ⟨P1, S1, hl1⟩
theorem s_callVirt (E : sEnv p s m c args cc nL base b D dA own) {h h' : sHp} (S : sSt base b D dA s h H locs) (hsl : ls.size = nL) (ac : s.heap.size + cells = base + h.length) {d idx o : Nat} {fs : List Value} {z : sMt} (ho : h[o]? = some (.inr (mI z, fs))) {as rest : List Value} {r : Option Value} (hz : sChkM z = true) (h0 : mK z = 1) (hl : Jvm.Cond.methodLink own idx (mY z) ∈ sTB) (hl2 : Jvm.Cond.selects (mY z).cls (mY z) (mY z) ∈ sTB) (hM : sMet l base b D dA d z (.ref o :: as) h r h') (hn : as.length = mA z) (hcat : (rest.map (fun v => v.category)).sum ≤ 8)
    (hRf : d + 1 ≤ R.frames) (hRl : 39 * (d + 1) ≤ R.locals) (hc : cells + (h'.length - h.length) ≤ R.cells) (hs : slots + (sSl h' - sSl h) ≤ R.slots) (hl1 : h'.length ≤ 1000000) (hdg : decode cc pc = .ok (.invokevirtual idx, 3))
    (kk : sNext p l e R s m args below meth c cells slots Q pc ls base b D dA h r h' rest) : W p l e R s m args below meth c H locs cells slots Q (F0 m pc ls (rS (sAd base b) (as.reverse ++ .ref o :: rest))) := by
  obtain ⟨hx, hb, hml, hown, hts, hK, hbs, hnw, hou⟩ := id E
  obtain ⟨f1, f2, f3, f4, f5, f6, f7, f8, f9, f10⟩ := sChkM_of hz
  obtain ⟨q, hq, hrc, hat⟩ := s_recv E S ho
  have hqc : q.1 = (mY z).cls := by
    have := f10 (by rw [h0]; decide)
    rw [hq] at this
    exact Option.some.inj this
  rw [hqc] at hrc
  refine W_size fun hzz => ?_
  have hH := s_size S hbs ac hzz
  have hin : Jvm.Cond.instanceMethod (mY z) ∈ sTB := f4 (by rw [h0]; decide)
  have hroom : (sRm d (h'.length - h.length) (sSl h' - sSl h)).frames + 1 ≤ R.frames ∧ 8 + (mN z + 11) + (sRm d (h'.length - h.length) (sSl h' - sSl h)).locals ≤ R.locals := ⟨hRf, by show 8 + (mN z + 11) + 39 * d ≤ _; omega⟩
  have hst : rS (sAd base b) (as.reverse ++ .ref o :: rest) = (rS (sAd base b) as).reverse ++ .ref (sAd base b o) :: rS (sAd base b) rest := by rw [rS, List.map_append, List.map_reverse]; rfl
  have hr := va_runV (p := p) (l := l) (e := e) (R := R) (below := below) (meth := meth) (locs := locs) (cells := cells) (slots := slots) (As := rS (sAd base b) as) (rest := rS (sAd base b) rest) (g := F0 m pc ls (rS (sAd base b) (as.reverse ++ .ref o :: rest))) ⟨hx, hb, hml, hown, hts⟩ hM (cwV (C := (mY z).cls) (mA z) hts (sTB_in (fun w hw => by
    rcases List.mem_append.mp hw with hw | hw
    · simp only [List.mem_cons, List.not_mem_nil, or_false] at hw
      rcases hw with rfl | rfl | rfl | rfl
      · exact hl
      · exact hin
      · exact hl2
      · exact f2
    · exact sWs_in hz w hw)) rfl rfl rfl ⟨rfl, f6⟩ hroom) ⟨s_blind, hrc, s_pre E S hH _⟩ rfl (by rw [List.length_map]; exact hn) hsl hst (lv_room (by rw [rS_cat]; exact hcat)) hdg ⟨hc, hs⟩
  refine s_back hr S.2.1 fun H1 l1 P1 S1 => ?_
  rw [rS_back]
  exact kk H1 l1 ⟨P1, S1, hl1⟩
theorem s_callFam (E : sEnv p s m c args cc nL base b D dA own) {h h' : sHp} (S : sSt base b D dA s h H locs) (hsl : ls.size = nL) (ac : s.heap.size + cells = base + h.length) {d idx o k ci : Nat} (hk1 : 1000 ≤ k) (hk2 : k < 1006) (hci : ci < 11) (hg : sGrp ci = 2) {fs : List Value} (ho : h[o]? = some (.inr (ci, fs))) {z : sMt} (hsz : sM (sVt k ci) = some z) {as rest : List Value} {r : Option Value} (hz : sChkM z = true) (hl : Jvm.Cond.methodLink own idx (sFx k) ∈ sTB) (hM : sMet l base b D dA d z (.ref o :: as) h r h') (hn : as.length = 1) (hcat : (rest.map (fun v => v.category)).sum ≤ 8)
    (hRf : d + 1 ≤ R.frames) (hRl : 39 * (d + 1) ≤ R.locals) (hc : cells + (h'.length - h.length) ≤ R.cells) (hs : slots + (sSl h' - sSl h) ≤ R.slots) (hl1 : h'.length ≤ 1000000) (hdg : decode cc pc = .ok (.invokevirtual idx, 3))
    (kk : sNext p l e R s m args below meth c cells slots Q pc ls base b D dA h r h' rest) : W p l e R s m args below meth c H locs cells slots Q (F0 m pc ls (rS (sAd base b) (as.reverse ++ .ref o :: rest))) := by
  obtain ⟨hx, hb, hml, hown, hts, hK, hbs, hnw, hou⟩ := id E
  obtain ⟨z', zx, e1, a1, a2, h0, a4, w1, w2, w3, w4⟩ := sFam_of hk1 hk2 hci hg
  cases hsz.symm.trans e1
  obtain ⟨f1, f2, f3, f4, f5, f6, f7, f8, f9, f10⟩ := sChkM_of hz
  obtain ⟨q, hq, hrc, hat⟩ := s_recv E S ho
  have hqc : q.1 = sCN ci := by unfold sCN; rw [hq]
  rw [hqc] at hrc
  refine W_size fun hzz => ?_
  have hH := s_size S hbs ac hzz
  have hin : Jvm.Cond.instanceMethod (mY z) ∈ sTB := f4 (by rw [h0]; decide)
  have hroom : (sRm d (h'.length - h.length) (sSl h' - sSl h)).frames + 1 ≤ R.frames ∧ 8 + (mN z + 11) + (sRm d (h'.length - h.length) (sSl h' - sSl h)).locals ≤ R.locals := ⟨hRf, by show 8 + (mN z + 11) + 39 * d ≤ _; omega⟩
  have hst : rS (sAd base b) (as.reverse ++ .ref o :: rest) = (rS (sAd base b) as).reverse ++ .ref (sAd base b o) :: rS (sAd base b) rest := by rw [rS, List.map_append, List.map_reverse]; rfl
  have hr := va_runU (p := p) (l := l) (e := e) (R := R) (below := below) (meth := meth) (locs := locs) (cells := cells) (slots := slots) (As := rS (sAd base b) as) (rest := rS (sAd base b) rest) (g := F0 m pc ls (rS (sAd base b) (as.reverse ++ .ref o :: rest))) ⟨hx, hb, hml, hown, hts⟩ hM (va_cwO (C := sCN ci) (owner := RX2) (x := sFx k) 1 hts (sTB_in (fun w hw => by
    rcases List.mem_append.mp hw with hw | hw
    · simp only [List.mem_cons, List.not_mem_nil, or_false] at hw
      rcases hw with rfl | rfl | rfl | rfl | rfl | rfl
      · exact hl
      · exact w1
      · exact w2
      · exact w3
      · exact hin
      · exact f2
    · exact sWs_in hz w hw)) rfl rfl rfl w4 ⟨by decide, by decide, a4⟩ hroom) ⟨s_blind, hrc, s_pre E S hH _⟩ rfl (by rw [List.length_map]; exact hn) hsl hst (lv_room (by rw [rS_cat]; exact hcat)) hdg ⟨hc, hs⟩
  refine s_back hr S.2.1 fun H1 l1 P1 S1 => ?_
  rw [rS_back]
  exact kk H1 l1 ⟨P1, S1, hl1⟩
end RUN
