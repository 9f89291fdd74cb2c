/-! ===== all of it ===== -/
section ALL
variable {p : Program} {l : Launch} {e : Env} {R : Room} {s : State} {m : MethodId} {args : Array Value} {below : List Frame} {meth : Method} {c : Code} {H : Heap} {locs : List Loc} {cells slots : Nat} {Q : State → Prop} {cc : ByteArray} {pc : Nat} {ls : Array Slot} {nL base : Nat} {b : Nat → Nat} {D : va_G} {dA : Nat → ClassId} {own : String}
theorem s_mnaStep {T : State} {locs2 : List Loc} {cells2 slots2 : Nat} (X : Stand p l e R s m args below meth c T locs cells slots) {vm₁ : Vm} {cA cB cI : ClassId} (XF : Stand p l e R s m args below meth c (sFil (T.setVm vm₁) cA cB 5) locs2 cells2 slots2) (hexec : p.tables.exec = Jvm.exec) {idx : Nat} {g : JFrame} (hg : g.method = m) (hdg : decode c.code g.pc = .ok (.multianewarray idx 2, 4)) {rest : List Value} (hstack : g.stack = .int 6 :: .int 5 :: rest)
    (hg₁ : (Jvm.resolveClass m.cls idx).Gives e.toSetting T.vm (.ok cA) vm₁) (hwarm₁ : s.WarmedH vm₁) {kA kB : Class} (hkA : vm₁.classes[cA]? = some kA) (hkindA : kA.kind = .array cB (.array .int)) (hkB : vm₁.classes[cB]? = some kB) (hkindB : kB.kind = .array cI .int)
    (hl1 : ¬ 5 > e.platform.arrayLengthLimit) (hh1 : ¬ 5 * componentBytes (.array .int) > e.platform.maxHeapBytes) (hl2 : ¬ 6 > e.platform.arrayLengthLimit) (hh2 : ¬ 6 * componentBytes .int > e.platform.maxHeapBytes)
    (hc : T.heap.size + 6 ≤ e.platform.maxCells) (hs : T.slotsUsed + 35 ≤ e.platform.maxSlots) :
    ∀ target, Steps p.tables e below ((sFil (T.setVm vm₁) cA cB 5).setTop { g with pc := g.pc + 4, stack := .ref T.heap.size :: rest }) target → Steps p.tables e below (T.setTop g) target := by
  subst hg
  intro target hrest
  jvm_step X.here [hexec, hdg]
  simp only [multianewarray.sem, wp_bind', W.resolveClassAt_links (State.method?_setTop g X.here.top) hg₁]
  rw [W.popN, if_neg (by decide)]
  refine ⟨g, State.topJava?_setTop' (s := T.setVm vm₁) g X.here.top, [.int 5, .int 6], rest, rfl, hstack, ?_⟩
  simp only [List.mapM_cons, List.mapM_nil, wp_bind', wp_pure']
  refine s_wpMake (kA := kA) (kB := kB) (cB := cB) (cI := cI) hkA hkindA hkB hkindB hl1 hh1 hl2 hh2 (by show T.heap.size + 6 ≤ _; exact hc) (by show T.slotsUsed + 35 ≤ _; exact hs) (fun d' acts' => ?_)
  have eS : ((T.setTop g).setVm vm₁).setTop { g with stack := rest } = (T.setVm vm₁).setTop { g with stack := rest } := by
    show ((T.setVm vm₁).setTop g).setTop _ = _
    rw [State.setTop_setTop]
  rw [eS, sFil_top]
  simp only [wp_bind', W.mark, W.pushRef, State.topJava?_setTop' _ XF.here.top, Option.some.injEq, exists_eq_left', State.setTop_setTop, State.heap_setTop]
  intro acts
  simp [jvm, XF.here.top]
  exact hrest
set_option maxHeartbeats 4000000 in
theorem s_newM (E : sEnv p s m c args cc nL base b D dA own) {h h' : sHp} (S : sSt base b D dA s h H locs) (ac : s.heap.size + cells = base + h.length) {idx : Nat} (hdg : decode cc pc = .ok (.multianewarray idx 2, 4)) (hw1 : Jvm.Cond.classLink own idx ("[" ++ (FieldType.array .int).toString) ∈ sTB) (hw2 : Jvm.Cond.arrayClass .int ∈ sTB) {st st' : List Value} (hh : sNewM st h = some (st', h')) (hl : h'.length ≤ 1000000)
    (hc : cells + (h'.length - h.length) ≤ R.cells) (hs : slots + (sSl h' - sSl h) ≤ R.slots)
    (kk : ∀ (H1 : Heap) (locs1 : List Loc), sSt base b D dA s h' H1 locs1 → W p l e R s m args below meth c H1 locs1 (cells + (h'.length - h.length)) (slots + (sSl h' - sSl h)) Q (F0 m (pc + 4) ls (rS (sAd base b) st'))) : W p l e R s m args below meth c H locs cells slots Q (F0 m pc ls (rS (sAd base b) st)) := by
  obtain ⟨hx, hb, hml, hown, hts, hK, hbs, hnw, hou⟩ := E
  unfold sNewM at hh
  split at hh
  · rename_i k n r
    split at hh
    · rename_i hkn
      obtain ⟨rfl, rfl⟩ := hkn
      cases hh
      have e1 : (h ++ ((.inl (5, 5, .inr (.inr (.inr (.inr (fun j => if j < 5 then some (h.length + 1 + j) else none))))) : va_E) :: List.replicate 5 (.inl (0, 6, .inl (fun _ => 0))))).length = h.length + 6 := by rw [List.length_append]; rfl
      have e2 : sSl (h ++ ((.inl (5, 5, .inr (.inr (.inr (.inr (fun j => if j < 5 then some (h.length + 1 + j) else none))))) : va_E) :: List.replicate 5 (.inl (0, 6, .inl (fun _ => 0))))) = sSl h + 35 := by rw [sSl_app]; rfl
      rw [e1, e2, show h.length + 6 - h.length = 6 by omega, show sSl h + 35 - sSl h = 35 by omega] at kk
      rw [e1, show h.length + 6 - h.length = 6 by omega] at hc
      rw [e2, show sSl h + 35 - sSl h = 35 by omega] at hs
      rw [e1] at hl
      refine W_size fun hz => ?_
      have hH := s_size S hbs ac hz
      intro T hT X
      subst hb
      have hpl : e.platform.magicAccessors = ({} : Platform).magicAccessors := by rw [X.admits.platform]
      obtain ⟨comp, cA, kA, hcomp, -, hkA, hkindA, hnameA⟩ := sAO_use (hnw (.arrayOver (.array .int)) (by simp [sNwl]))
      obtain ⟨comp', kC, cI, hcomp', hkC, hkindC⟩ := Cond.arrayClass_spec (hts _ hw2)
      have ecomp : comp' = comp := Option.some.inj (hcomp'.symm.trans hcomp)
      subst ecomp
      have eA : cA = dA 5 := Option.some.inj (hnameA.symm.trans (hK.2 5 _ rfl).2)
      have eC : comp' = dA 0 := Option.some.inj (hcomp'.symm.trans (hK.2 0 _ rfl).2)
      obtain ⟨c0, hfc0, hcl⟩ := Cond.classLink_spec hown (hts _ hw1) e.platform hpl
      cases hnameA.symm.trans hfc0
      obtain ⟨hg₁, hwarm₁, hready₁⟩ := State.classEntry (e := e) X.warmed hcl
      generalize T.vm.noted m.cls idx (.cls cA) = vm₁ at hg₁ hwarm₁ hready₁
      have hal : s.vm.Alike vm₁ := hwarm₁.alike
      obtain ⟨kA₁, hkA₁, heA⟩ := hal.2.2 _ _ hkA
      obtain ⟨kC₁, hkC₁, heC⟩ := hal.2.2 _ _ hkC
      have hkindA₁ : kA₁.kind = .array comp' (.array .int) := by rw [heA]; exact hkindA
      have hkindC₁ : kC₁.kind = .array cI .int := by rw [heC]; exact hkindC
      have X₁ := X.noted hwarm₁
      obtain ⟨hr1, hr2⟩ := X.roomAbove hc hs
      obtain ⟨Lf, hLf, XF⟩ := sFil_stand X₁ cA comp' 5
      obtain ⟨f1, f2, f3, f4, f5, f6⟩ := sFil_facts (T.setVm vm₁) cA comp' 5
      have hTs : (T.setVm vm₁).heap.size = base + h.length := by show T.heap.size = _; rw [hT]; exact hH
      have hTh : (T.setVm vm₁).heap = H := hT
      rw [hTs] at f1 f2 f5 f6
      have hst : sSt base b D dA s (h ++ ((.inl (5, 5, .inr (.inr (.inr (.inr (fun j => if j < 5 then some (h.length + 1 + j) else none))))) : va_E) :: List.replicate 5 (.inl (0, 6, .inl (fun _ => 0))))) (sFil (T.setVm vm₁) cA comp' 5).heap (locs ++ Lf) := by
        refine ⟨fun k q hk => ?_, ⟨by rw [f1]; have := S.2.1.1; omega, fun q g1 g2 => ?_, fun q hq => ?_⟩, by rw [e1]; exact hl⟩
        · rw [rW_get] at hk
          obtain ⟨x, hx1, hx2⟩ := Option.map_eq_some_iff.mp hk
          by_cases hkl : k < h.length
          · rw [List.getElem?_append_left hkl] at hx1
            have h7 := S.1 k _ (rW_at hx1)
            rw [hx2] at h7
            refine h7.kept ?_
            have h8 := h7.lt
            rw [f5 _ (by omega), hTh]
          · rw [List.getElem?_append_right (by omega)] at hx1
            obtain ⟨j, hj⟩ : ∃ j, k - h.length = j := ⟨_, rfl⟩
            rw [hj] at hx1
            have hsk : sAd base b k = base + k := sAd_in (by
              have h9 := (List.getElem?_eq_some_iff.mp hx1).1
              rw [List.length_cons, List.length_replicate] at h9
              omega)
            rw [← hx2]
            cases j with
            | zero =>
              rw [List.getElem?_cons_zero] at hx1
              cases hx1
              show (sFil (T.setVm vm₁) cA comp' 5).heap[sAd base b k]? = some (vp_cell (dA 5) (5, .inr (.inr (.inr (.inr (fun j => (if j < 5 then some (h.length + 1 + j) else none).map (sAd base b)))))))
              rw [hsk, show base + k = base + h.length by omega, f2, ← eA, vp_cell_q]
              refine congrArg some (congrArg (arrV cA 5) (funext fun j => ?_))
              by_cases hj5 : j < 5
              · rw [if_pos hj5, if_pos hj5]
                show va_rf (some (base + h.length + 1 + j)) = va_rf (some (sAd base b (h.length + 1 + j)))
                rw [sAd_in (by omega)]
                exact congrArg (fun x => va_rf (some x)) (by omega)
              · rw [if_neg hj5, if_neg hj5]
                rfl
            | succ j =>
              rw [List.getElem?_cons_succ, List.getElem?_replicate] at hx1
              split at hx1
              · rename_i hj5
                cases hx1
                show (sFil (T.setVm vm₁) cA comp' 5).heap[sAd base b k]? = some (vp_cell (dA 0) (6, .inl (fun _ => 0)))
                rw [hsk, show base + k = base + h.length + 1 + j by omega, f6 j hj5, ← eC]
                rfl
              · cases hx1
        · rw [f5 q (by have := S.2.1.1; omega), hTh]
          exact S.2.1.2.1 q g1 g2
        · rcases List.mem_append.mp hq with h7 | h7
          · exact S.2.1.2.2 q h7
          · rw [hLf q h7, hTs]
            omega
      have h2 := kk (sFil (T.setVm vm₁) cA comp' 5).heap (locs ++ Lf) hst
      rw [rS, List.map_cons] at h2
      have e5 : rV (sAd base b) (.ref h.length) = .ref T.heap.size := by show Value.ref (sAd base b h.length) = _; rw [sAd_in (by omega), hT, hH]
      rw [e5] at h2
      obtain ⟨t, a1, b1⟩ := h2 (sFil (T.setVm vm₁) cA comp' 5) rfl XF
      refine ⟨t, ?_, b1⟩
      have hl1 : ¬ 5 > e.platform.arrayLengthLimit := by rw [Launch.admits_arrayLengthLimit X.admits]; omega
      have hh1 : ¬ 5 * componentBytes (.array .int) > e.platform.maxHeapBytes := by rw [Launch.admits_maxHeapBytes X.admits]; show ¬ 5 * 4 > 536870912; omega
      have hl2 : ¬ 6 > e.platform.arrayLengthLimit := by rw [Launch.admits_arrayLengthLimit X.admits]; omega
      have hh2 : ¬ 6 * componentBytes .int > e.platform.maxHeapBytes := by rw [Launch.admits_maxHeapBytes X.admits]; show ¬ 6 * 4 > 536870912; omega
      exact s_mnaStep X XF hx (g := F0 m pc ls (rS (sAd base b) (.int 6 :: .int 5 :: r))) rfl hdg rfl hg₁ hwarm₁ hkA₁ hkindA₁ hkC₁ hkindC₁ hl1 hh1 hl2 hh2 (by omega) (by omega) t a1
    · cases hh
  · cases hh
set_option maxHeartbeats 4000000 in
theorem s_heap (E : sEnv p s m c args cc nL base b D dA own) {h h' : sHp} (S : sSt base b D dA s h H locs) (ac : s.heap.size + cells = base + h.length) {nm : String} (hnm : nm = "<init>" → meth.name = "<init>") {ins : Instr} {st st' : List Value} (hh : sHeap ins st h = some (st', h')) {r : List Nat} {len : Nat} (hd : decode cc pc = .ok (sReal ins r, len)) (hln : sSw ins = true ∨ len = sLen ins) (hex : sExt own nm ins r = true) (hl : h'.length ≤ 1000000)
    (hsl : ls.size = nL) (hRf : 1 ≤ R.frames) (hRl : 39 ≤ R.locals) (hc : cells + (h'.length - h.length) ≤ R.cells) (hs : slots + (sSl h' - sSl h) ≤ R.slots)
    (kk : ∀ (H1 : Heap) (locs1 : List Loc), sSt base b D dA s h' H1 locs1 → W p l e R s m args below meth c H1 locs1 (cells + (h'.length - h.length)) (slots + (sSl h' - sSl h)) Q (F0 m (pc + sLen ins) ls (rS (sAd base b) st'))) : W p l e R s m args below meth c H locs cells slots Q (F0 m pc ls (rS (sAd base b) st)) := by
  have kk0 : h'.length = h.length → sSl h' = sSl h → ∀ (H1 : Heap) (locs1 : List Loc), sSt base b D dA s h' H1 locs1 → W p l e R s m args below meth c H1 locs1 cells slots Q (F0 m (pc + sLen ins) ls (rS (sAd base b) st')) := by
    intro e1 e2 H1 l1 S1
    have h2 := kk H1 l1 S1
    rw [e1, e2, Nat.sub_self, Nat.sub_self, Nat.add_zero, Nat.add_zero] at h2
    exact h2
  have hlen := hln.resolve_left (fun z => by rw [(sHeap_nop hh).2] at z; cases z)
  subst hlen
  have hx := E.1
  have hb := E.2.1
  have hown := E.2.2.2.1
  have hts := E.2.2.2.2.1
  unfold sHeap at hh
  split at hh
  · simp only [sExt] at hex
    split at hex
    · exact s_get E S hd (sChkG_ok hex) hh (fun e => by subst e; exact kk0 rfl rfl _ _ S)
    · cases hex
  · simp only [sExt] at hex
    split at hex
    · rw [Bool.and_eq_true] at hex
      exact s_put E S hd (ini := nm = "<init>") hnm (sChkF_ok hex.1 hex.2) hh (fun H1 l1 S1 e1 e2 => kk0 e1 e2 H1 l1 S1)
    · cases hex
  · exact s_ldAI E S hd hh (fun e => by subst e; exact kk0 rfl rfl _ _ S)
  · exact s_ldAZ E S hd hh (fun e => by subst e; exact kk0 rfl rfl _ _ S)
  · exact s_ldAL E S hd hh (fun e => by subst e; exact kk0 rfl rfl _ _ S)
  · exact s_ldAA E S hd hh (fun e => by subst e; exact kk0 rfl rfl _ _ S)
  · exact s_stAI E S hd hh (fun H1 l1 S1 e1 e2 => kk0 e1 e2 H1 l1 S1)
  · exact s_stAZ E S hd hh (fun H1 l1 S1 e1 e2 => kk0 e1 e2 H1 l1 S1)
  · exact s_stAL E S hd hh (fun H1 l1 S1 e1 e2 => kk0 e1 e2 H1 l1 S1)
  · exact s_stAA E S hd hh (fun H1 l1 S1 e1 e2 => kk0 e1 e2 H1 l1 S1)
  · exact s_alen E S hd hh (fun e => by subst e; exact kk0 rfl rfl _ _ S)
  · rename_i k
    simp only [sExt] at hex
    split at hex
    · rename_i idx p1 p2 p3 q hq
      simp only [Bool.and_eq_true] at hex
      exact s_new E S ac hd ⟨q, hq, sWi_in hex.1.1, sWi_in hex.1.2, sWi_in hex.2⟩ hh hl hc hs (fun H1 S1 => kk H1 locs S1)
    · cases hex
  · simp only [sExt] at hex
    split at hex
    · exact s_newA E S ac hd (sWi_in hex) hh hl hc hs (fun H1 S1 => kk H1 locs S1)
    · cases hex
  · simp only [sExt] at hex
    split at hex
    · simp only [Bool.or_eq_true, Bool.and_eq_true, beq_iff_eq] at hex
      exact s_newQ E S ac hd (hex.imp (fun z => ⟨z.1, sWi_in z.2⟩) (fun z => ⟨z.1, sWi_in z.2⟩)) hh hl hc hs (fun H1 S1 => kk H1 locs S1)
    · cases hex
  · simp only [sExt] at hex
    split at hex
    · simp only [Bool.and_eq_true, beq_iff_eq] at hex
      obtain ⟨rfl, w1, w2⟩ := hex
      exact s_newM E S ac hd (sWi_in w1) (sWi_in w2) hh hl hc hs kk
    · cases hex
  · cases hh
    simp only [sExt] at hex
    split at hex
    · exact lv_ldc2 hx hb hown (hts _ (sWi_in hex)) hd (kk0 rfl rfl _ _ S)
    · cases hex
  · rename_i k
    simp only [sExt] at hex
    split at hex
    · simp only [Bool.and_eq_true, decide_eq_true_eq] at hex
      rw [if_pos hex.1] at hh
      cases hh
      exact lv_ldc hx hb hown (hts _ (sWi_in hex.2)) hd (kk0 rfl rfl _ _ S)
    · simp only [decide_eq_true_eq] at hex
      obtain ⟨e1, e2, e3⟩ := hex
      rw [if_neg (by omega)] at hh
      split at hh
      · cases hh
        subst e1
        exact s_ldcS E (i := k - 4294967296) (by omega) e3 hd (kk0 rfl rfl _ _ S)
      · cases hh
    · cases hex
  · cases hh
    simp only [sExt] at hex
    split at hex
    · exact lv_ldcw hx hb hown (hts _ (sWi_in hex)) hd (kk0 rfl rfl _ _ S)
    · cases hex
  · split at hh
    · rename_i e3
      subst e3
      simp only [sExt] at hex
      rw [if_neg (by decide), if_pos trivial] at hex
      split at hex
      · simp only [Bool.and_eq_true] at hex
        exact s_cpy E hsl S hd (sWi_in hex.1) (sWi_in hex.2.1) (sWi_in hex.2.2.1) (sWi_in hex.2.2.2) hRf hRl hh (fun H1 l1 S1 e1 e2 => kk0 e1 e2 H1 l1 S1)
      · cases hex
    · cases hh
  · cases hh
theorem s_scr (E : sEnv p s m c args cc nL base b D dA own) {h : sHp} (S : sSt base b D dA s h H locs) {X : sX} (hX : ∀ L xs, X = some (L, xs) → va_X (b 1000000) L xs s s.heap ∧ b 1000000 < s.heap.size ∧ ¬ base ≤ b 1000000) {ins : Instr} {st st' : List Value} (hh : sScr X ins st = some st') {r : List Nat} {len : Nat} (hd : decode cc pc = .ok (sReal ins r, len)) (hln : sSw ins = true ∨ len = sLen ins)
    (kk : W p l e R s m args below meth c H locs cells slots Q (F0 m (pc + sLen ins) ls (rS (sAd base b) st'))) : W p l e R s m args below meth c H locs cells slots Q (F0 m pc ls (rS (sAd base b) st)) := by
  have hx := E.1
  have hb := E.2.1
  unfold sScr at hh
  split at hh
  · rename_i L xs
    obtain ⟨h1, h2, h3⟩ := hX L xs rfl
    split at hh
    · have hlen := hln.resolve_left (fun z => by cases z)
      subst hlen
      split at hh
      · split at hh
        · rename_i ha
          cases hh
          subst ha
          exact va_slen hx hb h1 h2 h3 S.2.1 hd kk
        · cases hh
      · cases hh
    · have hlen := hln.resolve_left (fun z => by cases z)
      subst hlen
      split at hh
      · split at hh
        · rename_i ha
          cases hh
          obtain ⟨rfl, hin⟩ := ha
          exact va_sld hx hb h1 h2 h3 S.2.1 hin hd kk
        · cases hh
      · cases hh
    · cases hh
  · cases hh
theorem sScr_nop {X : sX} {ins : Instr} {st st' : List Value} (hh : sScr X ins st = some st') : ins ≠ .nop := by
  unfold sScr at hh
  split at hh
  · split at hh
    · intro z; cases z
    · intro z; cases z
    · cases hh
  · cases hh
theorem s_sum {v w : Value} {r : List Value} (h : ((v :: w :: r).map (fun v => v.category)).sum ≤ 10) : (r.map (fun v => v.category)).sum ≤ 8 := by
  have h1 : 1 ≤ v.category := by rcases lv_cat v with q | q <;> omega
  have h2 : 1 ≤ w.category := by rcases lv_cat w with q | q <;> omega
  simp only [List.map_cons, List.sum_cons] at h
  omega
theorem s_spec (E : sEnv p s m c args cc nL base b D dA own) (hsl : ls.size = nL) {ins : Instr} {st st' : List Value} (hk : sKnd ins ≠ 5) (hh : sSpec ins st = some st') (hcat : (st.map (fun v => v.category)).sum ≤ 10) {nm : String} {r : List Nat} {len : Nat} (hd : decode cc pc = .ok (sReal ins r, len)) (hln : sSw ins = true ∨ len = sLen ins) (hex : sExt own nm ins r = true) (hRf : 1 ≤ R.frames) (hRl : 39 ≤ R.locals) (hc : cells ≤ R.cells) (hs : slots ≤ R.slots)
    (kk : W p l e R s m args below meth c H locs cells slots Q (F0 m (pc + 3) ls (rS (sAd base b) st'))) : W p l e R s m args below meth c H locs cells slots Q (F0 m pc ls (rS (sAd base b) st)) := by
  obtain ⟨hx, hb, hml, hown, hts, hK, hbs, hnw, hou⟩ := id E
  unfold sSpec at hh
  split at hh
  · rename_i k
    have hlen := hln.resolve_left (fun z => by cases z)
    subst hlen
    have hk1 : ¬ k < 258 := by
      intro z
      apply hk
      unfold sKnd
      dsimp only
      rw [if_pos (by omega)]
    have hk3 : ¬ k = 1003 := by
      intro z
      subst z
      rw [if_neg (by decide), if_neg (by decide), if_neg (by decide)] at hh
      cases hh
    simp only [sExt] at hex
    rw [if_neg hk1, if_neg hk3] at hex
    split at hex
    · simp only [Bool.and_eq_true, decide_eq_true_eq] at hex
      obtain ⟨⟨-, w2⟩, w⟩ := hex
      split at hh
      · rename_i h0
        rw [if_pos h0] at w
        simp only [Bool.and_eq_true] at w
        obtain ⟨x, y, v, r', rfl, h1, rfl⟩ := s2i_of hh
        cases h1
        have hct := s_sum hcat
        exact va_mmax hx hb (hml.trans hsl.symm) hown (hts _ (sWi_in w.1.1)) (hts _ (sWi_in w.1.2)) (hts _ (sWi_in w2)) (hts _ (sWi_in w.2)) hRf (by rw [rS_cat]; omega) hc hs hd kk
      · split at hh
        · rename_i h0' h0
          rw [if_neg h0', if_pos h0] at w
          simp only [Bool.and_eq_true] at w
          obtain ⟨x, y, v, r', rfl, h1, rfl⟩ := s2i_of hh
          cases h1
          have hct := s_sum hcat
          exact va_mmin hx hb (hml.trans hsl.symm) hown (hts _ (sWi_in w.1.1)) (hts _ (sWi_in w.1.2)) (hts _ (sWi_in w2)) (hts _ (sWi_in w.2)) hRf (by rw [rS_cat]; omega) hc hs hd kk
        · split at hh
          · rename_i h0' h0'' h0
            rw [if_neg h0', if_neg h0''] at w
            simp only [Bool.and_eq_true] at w
            obtain ⟨x, r', rfl, rfl⟩ := s1i_of hh
            have hct : (r'.map (fun v => v.category)).sum ≤ 10 := by
              simp only [List.map_cons, List.sum_cons] at hcat
              omega
            exact va_mabs hx hb (hml.trans hsl.symm) hown (hts _ (sWi_in w.1.1)) (hts _ (sWi_in w.1.2)) (hts _ (sWi_in w2)) (hts _ (sWi_in w.2)) hRf (by rw [rS_cat]; omega) hc hs hd kk
          · cases hh
    · cases hex
  · rename_i k
    have hlen := hln.resolve_left (fun z => by cases z)
    subst hlen
    split at hh
    · rename_i h0
      subst h0
      split at hh
      · rename_i o r'
        cases hh
        simp only [sExt] at hex
        rw [if_neg (by decide)] at hex
        split at hex
        · simp only [Bool.and_eq_true] at hex
          have hct : (st'.map (fun v => v.category)).sum ≤ 10 := by
            simp only [List.map_cons, List.sum_cons] at hcat
            omega
          exact W.objInit hx hb hown (hts _ (sWi_in hex.1.1.2)) (hts _ (sWi_in hex.1.2)) (hts _ (sWi_in hex.2)) (g := F0 m pc ls (.ref (sAd base b o) :: rS (sAd base b) st')) rfl (hsl.trans hml.symm) rfl hd hRf (by rw [rS_cat]; show 2 * 0 + _ + 12 ≤ _; omega) kk
        · cases hex
      · cases hh
    · cases hh
  · cases hh
set_option maxHeartbeats 4000000 in
theorem s_run {q : sMt} (hq : ∀ e ∈ mT q, sChkE q e = true) {X : sX} {d nf : Nat} (E : sEnv p s m c args (mC q) (mN q) base b D dA (mY q).cls) (hnm : (mY q).name = "<init>" → meth.name = "<init>") (hX : ∀ L xs, X = some (L, xs) → va_X (b 1000000) L xs s s.heap ∧ b 1000000 < s.heap.size ∧ ¬ base ≤ b 1000000) (hRf : d + 1 ≤ R.frames) (hRl : 39 * (d + 1) ≤ R.locals)
    (hgood : ∀ (k : Nat) (z : sMt), k < 258 → sM k = some z → sChkM z = true)
    (hmet : ∀ (k : Nat) (as : List Value) (h : sHp) (r : Option Value) (h' : sHp) (z : sMt), k < 258 → sM k = some z → sCall d nf k as h = some (r, h') → h'.length ≤ 1000000 → sMet l base b D dA d z as h r h')
    {sl0 : Nat} {hf : sHp} {v : Option Value} (hfl : hf.length ≤ 1000000) (hRc : base + hf.length ≤ s.heap.size + R.cells) (hRs : sSl hf ≤ sl0 + R.slots)
    (kret : ∀ (pc' : Nat) (ins : Instr) (ls' : Array Slot) (st' : List Value) (H' : Heap) (locs' : List Loc) (cells' slots' : Nat), sRet (mR q) ins st' = some v → decode (mC q) pc' = .ok (ins, 1) → sSt base b D dA s hf H' locs' → s.heap.size + cells' = base + hf.length → slots' + sl0 = sSl hf → W p l e R s m args below meth c H' locs' cells' slots' Q (F0 m pc' ls' (rS (sAd base b) st'))) :
    ∀ (n pc : Nat) (L : sLo) (st : List Value) (h : sHp) (H : Heap) (ls : Array Slot) (locs : List Loc) (cells slots : Nat), sRun X (sFt q) (mR q) (sCal sNA sOwn sVt) (sCall d nf) n pc L st h = some (v, hf) → sSt base b D dA s h H locs → sLs (sAd base b) (mN q) L ls → s.heap.size + cells = base + h.length → slots + sl0 = sSl h → W p l e R s m args below meth c H locs cells slots Q (F0 m pc ls (rS (sAd base b) st)) := by
  have cle : ∀ k as h r h', sCall d nf k as h = some (r, h') → sLe h h' := fun k as h r h' => sCall_le d nf k as h r h'
  intro n
  induction n with
  | zero => intro pc L st h H ls locs cells slots hr; cases hr
  | succ n ih =>
    intro pc L st h H ls locs cells slots hr S hl ac as
    have hle0 := sRun_le cle _ _ _ _ _ _ _ hr
    rw [sRun] at hr
    cases hF : sFt q pc with
    | none => rw [hF] at hr; cases hr
    | some ins =>
      rw [hF] at hr
      dsimp only at hr
      have hx := E.1
      have hb := E.2.1
      split at hr
      · obtain ⟨st1, h1, h2⟩ := Option.bind_eq_some_iff.mp hr
        obtain ⟨r, len, hd, hln, hex⟩ := sChkE_of hq hF (sPure_real h1 []).2.2
        obtain ⟨e1, e2, -⟩ := sPure_real h1 r
        rw [e1] at hd
        have e3 := hln.resolve_left (fun z => by rw [e2] at z; cases z)
        subst e3
        exact s_pure hx hb h1 hd (ih _ _ _ _ _ _ _ _ _ h2 S hl ac as)
      · obtain ⟨z, h1, h2⟩ := Option.bind_eq_some_iff.mp hr
        obtain ⟨r, len, hd, hln, hex⟩ := sChkE_of hq hF (sLoc_real h1 []).2.2
        obtain ⟨e1, e2, -⟩ := sLoc_real h1 r
        rw [e1] at hd
        have e3 := hln.resolve_left (fun z => by rw [e2] at z; cases z)
        subst e3
        exact s_loc hx hb hl h1 hd (fun ls' hl' => ih _ _ _ _ _ _ _ _ _ h2 S hl' ac as)
      · split at hr
        · rename_i st1 h1
          obtain ⟨r, len, hd, hln, hex⟩ := sChkE_of hq hF (sScr_nop h1)
          exact s_scr E S hX h1 hd hln (ih _ _ _ _ _ _ _ _ _ hr S hl ac as)
        · obtain ⟨z, h1, h2⟩ := Option.bind_eq_some_iff.mp hr
          obtain ⟨r, len, hd, hln, hex⟩ := sChkE_of hq hF (sHeap_nop h1).1
          have hle1 := sHeap_le h1
          have hle2 := sRun_le cle _ _ _ _ _ _ _ h2
          have g1 := hle1.1
          have g2 := hle1.2
          have g3 := hle2.1
          have g4 := hle2.2
          exact s_heap E S ac hnm h1 hd hln hex (by omega) hl.2.2.1 (by omega) (by omega) (by omega) (by omega) (fun H1 l1 S1 => ih _ _ _ _ _ _ _ _ _ h2 S1 hl (by omega) (by omega))
      · obtain ⟨z, h1, h2⟩ := Option.bind_eq_some_iff.mp hr
        obtain ⟨r, len, hd, hln, hex⟩ := sChkE_of hq hF (sJmp_real h1 []).2.1
        obtain ⟨e1, -, e2⟩ := sJmp_real h1 r
        rw [e1] at hd
        refine s_jmp hx hb h1 hd ?_ (ih _ _ _ _ _ _ _ _ _ h2 S hl ac as)
        rcases e2 with e2 | ⟨dd, ps, rfl⟩ | ⟨e2, e3, e4⟩
        · exact Or.inl e2
        · exact Or.inr (Or.inl ⟨dd, ps, rfl, hex⟩)
        · exact Or.inr (Or.inr ⟨(hln.resolve_left (fun z => by rw [e2] at z; cases z)).trans e3, e4⟩)
      · obtain ⟨z, h1, h2⟩ := Option.map_eq_some_iff.mp hr
        cases h2
        obtain ⟨r, len, hd, hln, hex⟩ := sChkE_of hq hF (sRet_real h1 []).2.2.1
        obtain ⟨e1, e2, -, e4⟩ := sRet_real h1 r
        rw [e1] at hd
        have e3 := (hln.resolve_left (fun z => by rw [e2] at z; cases z)).trans e4
        subst e3
        exact kret _ _ _ _ _ _ _ _ h1 hd S ac as
      · rename_i hkd
        obtain ⟨z, h1, h2⟩ := Option.bind_eq_some_iff.mp hr
        split at h2
        · rename_i hcat
          obtain ⟨y, h3, h4⟩ := Option.bind_eq_some_iff.mp h2
          have hle1 := cle _ _ _ _ _ h3
          have hle2 := sRun_le cle _ _ _ _ _ _ _ h4
          have g1 := hle1.1
          have g2 := hle1.2
          have g3 := hle2.1
          have g4 := hle2.2
          have hsl := hl.2.2.1
          have knx : ∀ (ls0 : Array Slot), ls0 = ls → sNext p l e R s m args below meth c cells slots Q pc ls0 base b D dA h y.1 y.2 z.2.2 := fun ls0 e0 H1 l1 S1 => by
            subst e0
            exact ih _ _ _ _ _ _ _ _ _ h4 S1 hl (by omega) (by omega)
          have hni : ins ≠ .nop := fun z => by rw [z] at hkd; cases hkd
          obtain ⟨r, len, hd, hln, hex⟩ := sChkE_of hq hF hni
          unfold sCal at h1
          split at h1
          · rename_i k
            obtain ⟨w, h5, h6⟩ := Option.map_eq_some_iff.mp h1
            subst h6
            obtain ⟨h7, h8⟩ := sPop_of h5
            have hlen := hln.resolve_left (fun z => by cases z)
            subst hlen
            have hk0 : k < 1000 := by
              rcases Nat.lt_or_ge k 1000 with z | z
              · exact z
              · unfold sKnd at hkd
                dsimp only at hkd
                rw [if_neg (by omega)] at hkd
                split at hkd <;> cases hkd
            simp only [sExt] at hex
            by_cases hk : k < 258
            · rw [if_pos hk] at hex
              split at hex
              · rename_i idx p1 zz hzz
                simp only [Bool.and_eq_true, beq_iff_eq] at hex
                have hna : sNA k = mA zz := by unfold sNA; rw [hzz]
                have hm := hmet k w.1 h y.1 y.2 zz hk hzz h3 (by omega)
                rw [h7]
                exact s_callStatic E S hsl ac (hgood k zz hk hzz) hex.1 (sWi_in hex.2) hm (h8.trans hna) hcat hRf hRl (by omega) (by omega) (by omega) hd (knx ls rfl)
              · cases hex
            · rw [if_neg hk, if_neg (show ¬ k = 1003 by omega)] at hex
              split at hex
              · simp only [Bool.and_eq_true, decide_eq_true_eq] at hex
                omega
              · cases hex
          · rename_i k
            obtain ⟨w, h5, h6⟩ := Option.bind_eq_some_iff.mp h1
            obtain ⟨h7, h8⟩ := sPop_of h5
            have hlen := hln.resolve_left (fun z => by cases z)
            subst hlen
            have hk0 : k < 1000 := by
              rcases Nat.lt_or_ge k 1000 with z | z
              · exact z
              · unfold sKnd at hkd
                dsimp only at hkd
                rw [if_neg (by omega)] at hkd
                cases hkd
            split at h6
            · rename_i o rr hw2
              split at h6
              · rename_i ob hob
                cases h6
                simp only [sExt] at hex
                by_cases hk : k < 258
                · rw [if_pos hk] at hex
                  rw [h7, hw2]
                  split at hex
                  · rename_i idx p1 zz hzz
                    simp only [Bool.and_eq_true, beq_iff_eq] at hex
                    have hna : sNA k = mA zz := by unfold sNA; rw [hzz]
                    have hm := hmet k _ h y.1 y.2 zz hk hzz h3 (by omega)
                    exact s_callInit E S hsl ac (hgood k zz hk hzz) hex.1 (Or.inl (sWi_in hex.2)) hm (h8.trans hna) hcat hRf hRl (by omega) (by omega) (by omega) hd (knx ls rfl)
                  · rename_i idx zz hzz
                    simp only [Bool.and_eq_true, beq_iff_eq, decide_eq_true_eq] at hex
                    have hna : sNA k = mA zz := by unfold sNA; rw [hzz]
                    have hm := hmet k _ h y.1 y.2 zz hk hzz h3 (by omega)
                    exact s_callInit E S hsl ac (hgood k zz hk hzz) hex.1 (Or.inr hex.2) hm (h8.trans hna) hcat hRf hRl (by omega) (by omega) (by omega) hd (knx ls rfl)
                  · rename_i idx p1 p2 p3 zz hzz
                    unfold sSup at hex
                    simp only [Bool.and_eq_true, beq_iff_eq] at hex
                    have hna : sNA k = mA zz := by unfold sNA; rw [hzz]
                    have hm := hmet k _ h y.1 y.2 zz hk hzz h3 (by omega)
                    obtain ⟨ci, fs⟩ := ob
                    exact s_callUp E S hsl ac hob (hgood k zz hk hzz) hex.1 (sWi_in hex.2.1.1) (sWi_in hex.2.1.2) (sWi_in hex.2.2) hm (h8.trans hna) hcat hRf hRl (by omega) (by omega) (by omega) hd (knx ls rfl)
                  · rename_i idx p1 p2 p3 p4 zz hzz
                    simp only [Bool.and_eq_true, beq_iff_eq] at hex
                    have hna : sNA k = mA zz := by unfold sNA; rw [hzz]
                    have hm := hmet k _ h y.1 y.2 zz hk hzz h3 (by omega)
                    obtain ⟨ci, fs⟩ := ob
                    obtain ⟨xc, w1, w2, w3, w4⟩ := sSup2_of hex.2
                    exact s_callUp2 E S hsl ac hob (hgood k zz hk hzz) hex.1 w1 w2 w3 w4 hm (h8.trans hna) hcat hRf hRl (by omega) (by omega) (by omega) hd (knx ls rfl)
                  · cases hex
                · rw [if_neg hk] at hex
                  split at hex
                  · simp only [Bool.and_eq_true, decide_eq_true_eq] at hex
                    omega
                  · cases hex
              · cases h6
            · cases h6
          · rename_i k
            have hlen := hln.resolve_left (fun z => by cases z)
            subst hlen
            simp only [sExt] at hex
            split at h1
            · rename_i hk0
              obtain ⟨w, h5, h6⟩ := Option.bind_eq_some_iff.mp h1
              obtain ⟨h7, h8⟩ := sPop_of h5
              split at h6
              · rename_i o rr hw2
                split at h6
                · rename_i ci fs hob
                  split at h6
                  · rename_i hci
                    cases h6
                    by_cases hk : k < 258
                    · rw [if_pos hk] at hex
                      split at hex
                      · rename_i idx p1 zz hzz
                        simp only [Bool.and_eq_true, beq_iff_eq] at hex
                        obtain ⟨⟨x1, x2⟩, x3⟩ := hex
                        split at x3
                        · have hna : sNA k = mA zz := by unfold sNA; rw [hzz]
                          have how : sOwn k = mI zz := by unfold sOwn; rw [hzz]
                          have hm := hmet k _ h y.1 y.2 zz hk hzz h3 (by omega)
                          rw [h7, hw2]
                          rw [hci, how] at hob
                          exact s_callVirt E S hsl ac hob (hgood k zz hk hzz) x1 (sWi_in x2) (sWi_in x3) hm (h8.trans hna) hcat hRf hRl (by omega) (by omega) (by omega) hd (knx ls rfl)
                        · cases x3
                      · cases hex
                    · rw [if_neg hk] at hex
                      split at hex
                      · simp only [Bool.and_eq_true, decide_eq_true_eq] at hex
                        omega
                      · cases hex
                  · cases h6
                · cases h6
              · cases h6
            · rename_i hk0
              obtain ⟨w, h5, h6⟩ := Option.bind_eq_some_iff.mp h1
              obtain ⟨h7, h8⟩ := sPop_of h5
              split at h6
              · rename_i o rr hw2
                split at h6
                · rename_i ci fs hob
                  split at h6
                  · rename_i hci
                    cases h6
                    rw [if_neg (by omega)] at hex
                    split at hex
                    · simp only [Bool.and_eq_true, decide_eq_true_eq] at hex
                      obtain ⟨⟨x1, x2⟩, x3⟩ := hex
                      obtain ⟨zz, zx, e1, a1, a2, a3, a4, -⟩ := sFam_of x1 x2 hci.2 hci.1
                      have hm := hmet _ _ h y.1 y.2 zz a1 e1 h3 (by omega)
                      rw [h7, hw2]
                      exact s_callFam E S hsl ac x1 x2 hci.2 hci.1 hob e1 (hgood _ zz a1 e1) (sWi_in x3) hm (h8.trans (by unfold sVt; rfl)) hcat hRf hRl (by omega) (by omega) (by omega) hd (knx ls rfl)
                    · cases hex
                  · cases h6
                · cases h6
              · cases h6
          · rename_i k cnt
            obtain ⟨w, h5, h6⟩ := Option.bind_eq_some_iff.mp h1
            obtain ⟨h7, h8⟩ := sPop_of h5
            have hlen := hln.resolve_left (fun z => by cases z)
            subst hlen
            split at h6
            · rename_i o rr hw2
              split at h6
              · rename_i ho
                replace h6 := Option.some.inj h6
                subst h6
                obtain ⟨i, hi7, rfl⟩ := s_out_i ho
                simp only [sExt] at hex
                split at hex
                · rename_i idx p1
                  obtain ⟨y1, y2⟩ := y
                  cases d with
                  | zero => cases h3
                  | succ d =>
                    rw [sCall] at h3
                    simp only [Bool.or_eq_true, Bool.and_eq_true, beq_iff_eq] at hex
                    rw [h7, hw2]
                    rcases hex with ⟨rfl, hex⟩ | ⟨rfl, hex⟩
                    · rw [if_pos (show 300 ≤ 3000 - 2700 by decide)] at h3
                      have hw1 : w.1 = [] := List.length_eq_zero_iff.mp h8
                      rw [hw1] at h3 knx ⊢
                      unfold sStC at h3
                      dsimp only at h3
                      split at h3
                      · rename_i hg
                        cases h3
                        rw [Nat.add_sub_cancel_left] at knx
                        exact s_callLen E S hsl ac hg.2.1 hi7 (sWi_in hex) hcat (by omega) (by omega) (by omega) (by omega) (by omega) hd (knx ls rfl)
                      · cases h3
                    · rw [if_pos (show 300 ≤ 3001 - 2700 by decide)] at h3
                      obtain ⟨v0, hw1⟩ := List.length_eq_one_iff.mp h8
                      rw [hw1] at h3 knx ⊢
                      unfold sStC at h3
                      dsimp only at h3
                      split at h3
                      · rename_i x e0
                        cases e0
                      · rename_i a x e0
                        cases e0
                        split at h3
                        · rename_i hg
                          cases h3
                          obtain ⟨g5, g6, g7, g8⟩ := hg
                          rw [Nat.add_sub_cancel_left] at knx g8
                          exact s_callCh E S hsl ac g6 hi7 g8 (sWi_in hex) hcat (by omega) (by omega) (by omega) (by omega) (by omega) hd (knx ls rfl)
                        · cases h3
                      · cases h3
                · cases hex
              · cases h6
            · cases h6
          · cases h1
        · cases h2
      · rename_i hk5
        split at hr
        · rename_i hcat
          obtain ⟨st1, h1, h2⟩ := Option.bind_eq_some_iff.mp hr
          have hni : ins ≠ .nop := fun z => by rw [z] at h1; cases h1
          obtain ⟨r, len, hd, hln, hex⟩ := sChkE_of hq hF hni
          have g1 := hle0.1
          have g2 := hle0.2
          exact s_spec E hl.2.2.1 (by assumption) h1 hcat hd hln hex (by omega) (by omega) (by omega) (by omega) (ih _ _ _ _ _ _ _ _ _ h2 S hl ac as)
        · cases hr
theorem s_met (l : Launch) (base : Nat) (b : Nat → Nat) (D : va_G) (dA : Nat → ClassId) : ∀ (d n k : Nat) (as : List Value) (h : sHp) (r : Option Value) (h' : sHp) (q : sMt), k < 258 → sM k = some q → sCall d n k as h = some (r, h') → h'.length ≤ 1000000 → sMet l base b D dA d q as h r h' := by
  intro d
  induction d with
  | zero => intro n k as h r h' q _ _ hr; cases hr
  | succ d ih =>
    intro n k as h r h' q hk hq hr hl
    have hle := sCall_le _ _ _ _ _ _ _ hr
    rw [sCall, if_neg (by omega)] at hr
    obtain ⟨q', h1, h2⟩ := Option.bind_eq_some_iff.mp hr
    cases hq.symm.trans h1
    obtain ⟨L, h3, h4⟩ := Option.bind_eq_some_iff.mp h2
    obtain ⟨hm, he⟩ := sOk_m k hk q hq
    refine Met.ofW (cc := mC q) (maxL := mN q) (ret := mR q) (sChkM_of hm).2.2.2.2.1 rfl ?_
    intro p e s m args below meth c s₁ B hml hv
    obtain ⟨rfl, hsz, hP, hK, hN, hOu⟩ := hv
    have hts : ∀ w ∈ sTB, w.before ((as.map (rV (sAd base b))).toArray) s = true := fun w hw => atoms_spec (ws := sWs q) B.pre w (List.mem_cons_of_mem _ hw)
    have hown : s.vm.findClass (mY q).cls = some m.cls := findClass_of_methodNamed B.named
    have hnm : (mY q).name = "<init>" → meth.name = "<init>" := fun z => ((name_of_methodNamed B.named B.method).1).trans z
    rw [lg_entry_eq]
    have g1 := hle.1
    have g2 := hle.2
    refine s_run (d := d) (nf := n) (X := none) (sl0 := sSl h) (hf := h') (v := r) he ⟨B.exec, B.bytes, hml, hown, hts, hK, by omega, hN, hOu⟩ hnm ((fun _ _ z => by cases z)) (by show d + 1 ≤ d + 1; omega) (by show 39 * (d + 1) ≤ 39 * (d + 1); omega) (fun k z hk hz => (sOk_m k hk z hz).1) (fun k as h r h' z hk hz => ih n k as h r h' z hk hz) hl (by show base + h'.length ≤ s.heap.size + (h'.length - h.length); omega) (by show sSl h' ≤ sSl h + (sSl h' - sSl h); omega) ?_ n 0 L [] h s.heap _ [] 0 0 h4 ⟨hP, va_S.rf, by omega⟩ (s_ini h3) (by omega) (by omega)
    intro pc' ins ls' st' H' locs' cells' slots' q1 q2 q3 q4 q5
    obtain rfl : cells' = h'.length - h.length := by omega
    obtain rfl : slots' = sSl h' - sSl h := by omega
    exact s_ret B.exec B.bytes q1 B.returns B.notSynchronized (fun t ht _ => ⟨⟨rfl, by rw [ht]; exact q3.1⟩, q3.2.1.F ht⟩) q3.2.1.2.2 q2
end ALL
