/-! ===== calls on the words ===== -/
theorem s_out_i {o : Nat} (h : 2000000 ≤ o ∧ o < 2000007) : ∃ i : Nat, i < 7 ∧ o = 2000000 + i := ⟨o - 2000000, by omega, by omega⟩
section RUN
variable {p : Program} {l : Launch} {e : Env} {R : Room} {s : State} {m : MethodId} {args : Array Value} {below : List Frame} {meth : Method} {c : Code} {H : Heap} {locs : List Loc} {cells slots : Nat} {Q : State → Prop} {cc : ByteArray} {pc : Nat} {ls : Array Slot} {nL base : Nat} {b : Nat → Nat} {D : va_G} {dA : Nat → ClassId} {own : String}
theorem s_callStr (E : sEnv p s m c args cc nL base b D dA own) {h : sHp} (S : sSt base b D dA s h H locs) (hsl : ls.size = nL) (ac : s.heap.size + cells = base + h.length) {d idx i : Nat} (hi : i < 7) {z : sMt} {as rest : List Value} {r : Option Value} (hcl : (mY z).cls = "java/lang/String") (f2 : Jvm.Cond.initialized (mY z).cls ∈ sTB) (hin : Jvm.Cond.instanceMethod (mY z) ∈ sTB) (hcd : Jvm.Cond.code (mY z) (mC z) (mN z) (mR z) ∈ sTB) (hl : Jvm.Cond.methodLink own idx (mY z) ∈ sTB) (hl2 : Jvm.Cond.selects (mY z).cls (mY z) (mY z) ∈ sTB) (f6 : (mY z).cls ≠ "java/lang/invoke/MethodHandle" ∧ (mY z).cls ≠ "java/lang/invoke/VarHandle" ∧ (parseMethodDescriptor (mY z).desc).map (fun d => d.parameters.length) = some (mA z)) (f7 : mN z ≤ 16) (hM : sMet l base b D dA d z (.ref (2000000 + i) :: as) h r h) (hn : as.length = mA z) (hcat : (rest.map (fun v => v.category)).sum ≤ 8)
    (hRf : d + 1 ≤ R.frames) (hRl : 39 * (d + 1) ≤ R.locals) (hc : cells ≤ R.cells) (hs : slots ≤ R.slots) (hl1 : h.length ≤ 1000000) (hdg : decode cc pc = .ok (.invokevirtual idx, 3))
    (kk : sNext p l e R s m args below meth c cells slots Q pc ls base b D dA h r h rest) : W p l e R s m args below meth c H locs cells slots Q (F0 m pc ls (rS (sAd base b) (as.reverse ++ .ref (2000000 + i) :: rest))) := by
  obtain ⟨hx, hb, hml, hown, hts, hK, hbs, hnw, hou⟩ := id E
  have hrc : ∃ cell : Cell, H[sAd base b (2000000 + i)]? = some cell ∧ cell.vm.isStatics = false ∧ s.vm.findClass (mY z).cls = some cell.cls := by
    obtain ⟨-, ⟨adV, h2⟩, -⟩ := sOuw_kept S.2.1.2.1 hou
    obtain ⟨⟨cS, kS, cell, h1, h2, h3, h4, h5, -⟩, -⟩ := h2 i hi
    have e : sAd base b (2000000 + i) = b (2000000 + i) := by unfold sAd; rw [if_pos (by omega)]
    exact ⟨cell, by rw [e]; exact h2, h4, by rw [hcl, h5]; exact h1⟩
  refine W_size fun hzz => ?_
  have hH := s_size S hbs ac hzz
  have hroom : (sRm d (h.length - h.length) (sSl h - sSl h)).frames + 1 ≤ R.frames ∧ 8 + (mN z + 11) + (sRm d (h.length - h.length) (sSl h - sSl h)).locals ≤ R.locals := ⟨hRf, by show 8 + (mN z + 11) + 39 * d ≤ _; omega⟩
  have hst : rS (sAd base b) (as.reverse ++ .ref (2000000 + i) :: rest) = (rS (sAd base b) as).reverse ++ .ref (sAd base b (2000000 + i)) :: rS (sAd base b) rest := by rw [rS, List.map_append, List.map_reverse]; rfl
  have hr := va_runV (p := p) (l := l) (e := e) (R := R) (below := below) (meth := meth) (locs := locs) (cells := cells) (slots := slots) (As := rS (sAd base b) as) (rest := rS (sAd base b) rest) (g := F0 m pc ls (rS (sAd base b) (as.reverse ++ .ref (2000000 + i) :: rest))) ⟨hx, hb, hml, hown, hts⟩ hM (cwV (C := (mY z).cls) (mA z) hts (sTB_in (fun w hw => by
    rcases List.mem_append.mp hw with hw | hw
    · simp only [List.mem_cons, List.not_mem_nil, or_false] at hw
      rcases hw with rfl | rfl | rfl | rfl
      · exact hl
      · exact hin
      · exact hl2
      · exact f2
    · rcases List.mem_cons.mp hw with rfl | hw
      · exact hcd
      · exact hw)) rfl rfl rfl ⟨rfl, f6⟩ hroom) ⟨s_blind, hrc, s_pre E S hH _⟩ rfl (by rw [List.length_map]; exact hn) hsl hst (lv_room (by rw [rS_cat]; exact hcat)) hdg ⟨by rw [Nat.sub_self]; exact hc, by rw [Nat.sub_self]; exact hs⟩
  refine s_back hr S.2.1 fun H1 l1 P1 S1 => ?_
  rw [rS_back]
  exact kk H1 l1 ⟨P1, S1, hl1⟩
theorem s_callLen (E : sEnv p s m c args cc nL base b D dA own) {h : sHp} (S : sSt base b D dA s h H locs) (hsl : ls.size = nL) (ac : s.heap.size + cells = base + h.length) {d idx i : Nat} (hd : 1 ≤ d) (hi : i < 7) {rest : List Value} (hl : Jvm.Cond.methodLink own idx Jvm.Lib.Str.length.name ∈ sTB) (hcat : (rest.map (fun v => v.category)).sum ≤ 8)
    (hRf : d + 1 ≤ R.frames) (hRl : 39 * (d + 1) ≤ R.locals) (hc : cells ≤ R.cells) (hs : slots ≤ R.slots) (hl1 : h.length ≤ 1000000) (hdg : decode cc pc = .ok (.invokevirtual idx, 3))
    (kk : sNext p l e R s m args below meth c cells slots Q pc ls base b D dA h (some (.int (Int32.ofNat (sTxL.getD i 0)))) h rest) : W p l e R s m args below meth c H locs cells slots Q (F0 m pc ls (rS (sAd base b) (.ref (2000000 + i) :: rest))) :=
  s_callStr E S hsl ac hi (z := sQl) (as := []) rfl (sW_in (p := 1017) (by decide +kernel)) (sW_in (p := 3135) (by decide +kernel)) (sW_in (p := 3137) (by decide +kernel)) hl (sW_in (p := 3136) (by decide +kernel)) (by decide +kernel) (by decide) (s_metLen hd hi h) rfl hcat hRf hRl hc hs hl1 hdg kk
theorem s_callCh (E : sEnv p s m c args cc nL base b D dA own) {h : sHp} (S : sSt base b D dA s h H locs) (hsl : ls.size = nL) (ac : s.heap.size + cells = base + h.length) {d idx i : Nat} (hd : 3 ≤ d) (hi : i < 7) {x : Int32} (hx : ¬ (x < 0 ∨ sTxL.getD i 0 ≤ x.toNatClampNeg)) {rest : List Value} (hl : Jvm.Cond.methodLink own idx Jvm.Lib.Str.charAt.name ∈ sTB) (hcat : (rest.map (fun v => v.category)).sum ≤ 8)
    (hRf : d + 1 ≤ R.frames) (hRl : 39 * (d + 1) ≤ R.locals) (hc : cells ≤ R.cells) (hs : slots ≤ R.slots) (hl1 : h.length ≤ 1000000) (hdg : decode cc pc = .ok (.invokevirtual idx, 3))
    (kk : sNext p l e R s m args below meth c cells slots Q pc ls base b D dA h (some (.int (sTxC i x.toNatClampNeg))) h rest) : W p l e R s m args below meth c H locs cells slots Q (F0 m pc ls (rS (sAd base b) (.int x :: .ref (2000000 + i) :: rest))) :=
  s_callStr E S hsl ac hi (z := sQc) (as := [.int x]) rfl (sW_in (p := 1017) (by decide +kernel)) (sW_in (p := 3148) (by decide +kernel)) (sW_in (p := 3150) (by decide +kernel)) hl (sW_in (p := 3149) (by decide +kernel)) (by decide +kernel) (by decide) (s_metCh hd hi hx h) rfl hcat hRf hRl hc hs hl1 hdg kk
end RUN
