/-! ===== all of it ===== -/
section ALL
variable {p : Program} {l : Launch} {e : Env} {R : Room} {s : State} {m : MethodId} {args : Array Value} {below : List Frame} {meth : Method} {c : Code} {H : Heap} {locs : List Loc} {cells slots : Nat} {Q : State → Prop} {cc : ByteArray} {pc : Nat} {ls : Array Slot} {nL base b : Nat} {D : va_G} {dA : Nat → ClassId} {own : String}
theorem s_newM (E : sEnv p s m c args cc nL base D dA own) {h h' : sHp} (S : sSt base b D dA s h H locs) (ac : s.heap.size + cells = base + h.length) {idx : Nat} (hdg : decode cc pc = .ok (.multianewarray idx 2, 4)) (hw1 : Jvm.Cond.classLink own idx ("[" ++ (FieldType.array .int).toString) ∈ sTB) (hw2 : Jvm.Cond.arrayClass .int ∈ sTB) {st st' : List Value} (hh : sNewM st h = some (st', h')) (hl : h'.length ≤ 1000000)
    (hc : cells + (h'.length - h.length) ≤ R.cells) (hs : slots + (sSl h' - sSl h) ≤ R.slots)
    (kk : ∀ (H1 : Heap) (locs1 : List Loc), sSt base b D dA s h' H1 locs1 → W p l e R s m args below meth c H1 locs1 (cells + (h'.length - h.length)) (slots + (sSl h' - sSl h)) Q (F0 m (pc + 4) ls (rS (sAd base b) st'))) : W p l e R s m args below meth c H locs cells slots Q (F0 m pc ls (rS (sAd base b) st)) := by
  sorry
set_option maxHeartbeats 4000000 in
theorem s_heap (E : sEnv p s m c args cc nL base D dA own) {h h' : sHp} (S : sSt base b D dA s h H locs) (ac : s.heap.size + cells = base + h.length) {nm : String} (hnm : meth.name = nm) {ins : Instr} {st st' : List Value} (hh : sHeap ins st h = some (st', h')) {r : List Nat} {len : Nat} (hd : decode cc pc = .ok (sReal ins r, len)) (hln : sSw ins = true ∨ len = sLen ins) (hex : sExt own nm ins r = true) (hl : h'.length ≤ 1000000)
    (hc : cells + (h'.length - h.length) ≤ R.cells) (hs : slots + (sSl h' - sSl h) ≤ R.slots)
    (kk : ∀ (H1 : Heap) (locs1 : List Loc), sSt base b D dA s h' H1 locs1 → W p l e R s m args below meth c H1 locs1 (cells + (h'.length - h.length)) (slots + (sSl h' - sSl h)) Q (F0 m (pc + sLen ins) ls (rS (sAd base b) st'))) : W p l e R s m args below meth c H locs cells slots Q (F0 m pc ls (rS (sAd base b) st)) := by
  have kk0 : h'.length = h.length → sSl h' = sSl h → ∀ (H1 : Heap) (locs1 : List Loc), sSt base b D dA s h' H1 locs1 → W p l e R s m args below meth c H1 locs1 cells slots Q (F0 m (pc + sLen ins) ls (rS (sAd base b) st')) := by
    intro e1 e2 H1 l1 S1
    have h2 := kk H1 l1 S1
    rw [e1, e2, Nat.sub_self, Nat.sub_self, Nat.add_zero, Nat.add_zero] at h2
    exact h2
  have hlen := hln.resolve_left (fun z => by rw [(sHeap_nop hh).2] at z; cases z)
  subst hlen
  have hx := E.1
  have hb := E.2.1
  have hown := E.2.2.2.1
  have hts := E.2.2.2.2.1
  unfold sHeap at hh
  split at hh
  · simp only [sExt] at hex
    split at hex
    · exact s_get E S hd (sChkG_ok hex) hh (fun e => by subst e; exact kk0 rfl rfl _ _ S)
    · cases hex
  · simp only [sExt] at hex
    split at hex
    · rw [Bool.and_eq_true] at hex
      exact s_put E S hd (ini := nm = "<init>") (fun z => hnm.trans z) (sChkF_ok hex.1 hex.2) hh (fun H1 l1 S1 e1 e2 => kk0 e1 e2 H1 l1 S1)
    · cases hex
  · exact s_ldAI E S hd hh (fun e => by subst e; exact kk0 rfl rfl _ _ S)
  · exact s_ldAZ E S hd hh (fun e => by subst e; exact kk0 rfl rfl _ _ S)
  · exact s_ldAL E S hd hh (fun e => by subst e; exact kk0 rfl rfl _ _ S)
  · exact s_ldAA E S hd hh (fun e => by subst e; exact kk0 rfl rfl _ _ S)
  · exact s_stAI E S hd hh (fun H1 l1 S1 e1 e2 => kk0 e1 e2 H1 l1 S1)
  · exact s_stAZ E S hd hh (fun H1 l1 S1 e1 e2 => kk0 e1 e2 H1 l1 S1)
  · exact s_stAL E S hd hh (fun H1 l1 S1 e1 e2 => kk0 e1 e2 H1 l1 S1)
  · exact s_stAA E S hd hh (fun H1 l1 S1 e1 e2 => kk0 e1 e2 H1 l1 S1)
  · exact s_alen E S hd hh (fun e => by subst e; exact kk0 rfl rfl _ _ S)
  · rename_i k
    simp only [sExt] at hex
    split at hex
    · rename_i idx p1 p2 p3 q hq
      simp only [Bool.and_eq_true] at hex
      exact s_new E S ac hd ⟨q, hq, sWi_in hex.1.1, sWi_in hex.1.2, sWi_in hex.2⟩ hh hl hc hs (fun H1 S1 => kk H1 locs S1)
    · cases hex
  · simp only [sExt] at hex
    split at hex
    · exact s_newA E S ac hd (sWi_in hex) hh hl hc hs (fun H1 S1 => kk H1 locs S1)
    · cases hex
  · simp only [sExt] at hex
    split at hex
    · simp only [Bool.or_eq_true, Bool.and_eq_true, beq_iff_eq] at hex
      exact s_newQ E S ac hd (hex.imp (fun z => ⟨z.1, sWi_in z.2⟩) (fun z => ⟨z.1, sWi_in z.2⟩)) hh hl hc hs (fun H1 S1 => kk H1 locs S1)
    · cases hex
  · simp only [sExt] at hex
    split at hex
    · simp only [Bool.and_eq_true, beq_iff_eq] at hex
      obtain ⟨rfl, w1, w2⟩ := hex
      exact s_newM E S ac hd (sWi_in w1) (sWi_in w2) hh hl hc hs kk
    · cases hex
  · cases hh
    simp only [sExt] at hex
    split at hex
    · exact lv_ldc2 hx hb hown (hts _ (sWi_in hex)) hd (kk0 rfl rfl _ _ S)
    · cases hex
  · cases hh
    simp only [sExt] at hex
    split at hex
    · exact lv_ldc hx hb hown (hts _ (sWi_in hex)) hd (kk0 rfl rfl _ _ S)
    · cases hex
  · cases hh
    simp only [sExt] at hex
    split at hex
    · exact lv_ldcw hx hb hown (hts _ (sWi_in hex)) hd (kk0 rfl rfl _ _ S)
    · cases hex
  · cases hh
theorem s_scr (E : sEnv p s m c args cc nL base D dA own) {h : sHp} (S : sSt base b D dA s h H locs) {X : sX} (hX : ∀ L xs, X = some (L, xs) → va_X b L xs s s.heap ∧ b < s.heap.size ∧ ¬ base ≤ b) {ins : Instr} {st st' : List Value} (hh : sScr X ins st = some st') {r : List Nat} {len : Nat} (hd : decode cc pc = .ok (sReal ins r, len)) (hln : sSw ins = true ∨ len = sLen ins)
    (kk : W p l e R s m args below meth c H locs cells slots Q (F0 m (pc + sLen ins) ls (rS (sAd base b) st'))) : W p l e R s m args below meth c H locs cells slots Q (F0 m pc ls (rS (sAd base b) st)) := by
  have hx := E.1
  have hb := E.2.1
  unfold sScr at hh
  split at hh
  · rename_i L xs
    obtain ⟨h1, h2, h3⟩ := hX L xs rfl
    split at hh
    · have hlen := hln.resolve_left (fun z => by cases z)
      subst hlen
      split at hh
      · split at hh
        · rename_i ha
          cases hh
          subst ha
          exact va_slen hx hb h1 h2 h3 S.2.1 hd kk
        · cases hh
      · cases hh
    · have hlen := hln.resolve_left (fun z => by cases z)
      subst hlen
      split at hh
      · split at hh
        · rename_i ha
          cases hh
          obtain ⟨rfl, hin⟩ := ha
          exact va_sld hx hb h1 h2 h3 S.2.1 hin hd kk
        · cases hh
      · cases hh
    · cases hh
  · cases hh
theorem sScr_nop {X : sX} {ins : Instr} {st st' : List Value} (hh : sScr X ins st = some st') : ins ≠ .nop := by
  unfold sScr at hh
  split at hh
  · split at hh
    · intro z; cases z
    · intro z; cases z
    · cases hh
  · cases hh
theorem s_sum {v w : Value} {r : List Value} (h : ((v :: w :: r).map (fun v => v.category)).sum ≤ 10) : (r.map (fun v => v.category)).sum ≤ 8 := by
  have h1 : 1 ≤ v.category := by rcases lv_cat v with q | q <;> omega
  have h2 : 1 ≤ w.category := by rcases lv_cat w with q | q <;> omega
  simp only [List.map_cons, List.sum_cons] at h
  omega
theorem s_spec (E : sEnv p s m c args cc nL base D dA own) (hsl : ls.size = nL) {ins : Instr} {st st' : List Value} (hk : sKnd ins ≠ 5) (hh : sSpec ins st = some st') (hcat : (st.map (fun v => v.category)).sum ≤ 10) {nm : String} {r : List Nat} {len : Nat} (hd : decode cc pc = .ok (sReal ins r, len)) (hln : sSw ins = true ∨ len = sLen ins) (hex : sExt own nm ins r = true) (hRf : 1 ≤ R.frames) (hRl : 40 ≤ R.locals) (hc : cells ≤ R.cells) (hs : slots ≤ R.slots)
    (kk : W p l e R s m args below meth c H locs cells slots Q (F0 m (pc + 3) ls (rS (sAd base b) st'))) : W p l e R s m args below meth c H locs cells slots Q (F0 m pc ls (rS (sAd base b) st)) := by
  obtain ⟨hx, hb, hml, hown, hts, hK, hbs, hnw⟩ := id E
  unfold sSpec at hh
  split at hh
  · rename_i k
    have hlen := hln.resolve_left (fun z => by cases z)
    subst hlen
    have hk1 : ¬ k < 258 := by
      intro z
      apply hk
      unfold sKnd
      dsimp only
      rw [if_pos (by omega)]
    simp only [sExt] at hex
    rw [if_neg hk1] at hex
    split at hex
    · simp only [Bool.and_eq_true, decide_eq_true_eq] at hex
      obtain ⟨⟨-, w2⟩, w⟩ := hex
      split at hh
      · rename_i h0
        rw [if_pos h0] at w
        simp only [Bool.and_eq_true] at w
        obtain ⟨x, y, v, r', rfl, h1, rfl⟩ := s2i_of hh
        cases h1
        have hct := s_sum hcat
        exact va_mmax hx hb (hml.trans hsl.symm) hown (hts _ (sWi_in w.1.1)) (hts _ (sWi_in w.1.2)) (hts _ (sWi_in w2)) (hts _ (sWi_in w.2)) hRf (by rw [rS_cat]; omega) hc hs hd kk
      · split at hh
        · rename_i h0' h0
          rw [if_neg h0', if_pos h0] at w
          simp only [Bool.and_eq_true] at w
          obtain ⟨x, y, v, r', rfl, h1, rfl⟩ := s2i_of hh
          cases h1
          have hct := s_sum hcat
          exact va_mmin hx hb (hml.trans hsl.symm) hown (hts _ (sWi_in w.1.1)) (hts _ (sWi_in w.1.2)) (hts _ (sWi_in w2)) (hts _ (sWi_in w.2)) hRf (by rw [rS_cat]; omega) hc hs hd kk
        · split at hh
          · rename_i h0' h0'' h0
            rw [if_neg h0', if_neg h0''] at w
            simp only [Bool.and_eq_true] at w
            obtain ⟨x, r', rfl, rfl⟩ := s1i_of hh
            have hct : (r'.map (fun v => v.category)).sum ≤ 10 := by
              simp only [List.map_cons, List.sum_cons] at hcat
              omega
            exact va_mabs hx hb (hml.trans hsl.symm) hown (hts _ (sWi_in w.1.1)) (hts _ (sWi_in w.1.2)) (hts _ (sWi_in w2)) (hts _ (sWi_in w.2)) hRf (by rw [rS_cat]; omega) hc hs hd kk
          · cases hh
    · cases hex
  · rename_i k
    have hlen := hln.resolve_left (fun z => by cases z)
    subst hlen
    split at hh
    · rename_i h0
      subst h0
      split at hh
      · rename_i o r'
        cases hh
        simp only [sExt] at hex
        rw [if_neg (by decide)] at hex
        split at hex
        · simp only [Bool.and_eq_true] at hex
          have hct : (st'.map (fun v => v.category)).sum ≤ 10 := by
            simp only [List.map_cons, List.sum_cons] at hcat
            omega
          exact W.objInit hx hb hown (hts _ (sWi_in hex.1.1.2)) (hts _ (sWi_in hex.1.2)) (hts _ (sWi_in hex.2)) (g := F0 m pc ls (.ref (sAd base b o) :: rS (sAd base b) st')) rfl (hsl.trans hml.symm) rfl hd hRf (by rw [rS_cat]; show 2 * 0 + _ + 12 ≤ _; omega) kk
        · cases hex
      · cases hh
    · cases hh
  · cases hh
set_option maxHeartbeats 4000000 in
theorem s_run {q : sMt} (hq : ∀ e ∈ mT q, sChkE q e = true) {X : sX} {d nf : Nat} (E : sEnv p s m c args (mC q) (mN q) base D dA (mY q).cls) (hnm : meth.name = (mY q).name) (hX : ∀ L xs, X = some (L, xs) → va_X b L xs s s.heap ∧ b < s.heap.size ∧ ¬ base ≤ b) (hRf : d + 1 ≤ R.frames) (hRl : 40 * (d + 1) ≤ R.locals)
    (hgood : ∀ (k : Nat) (z : sMt), k < 258 → sM k = some z → sChkM z = true)
    (hmet : ∀ (k : Nat) (as : List Value) (h : sHp) (r : Option Value) (h' : sHp) (z : sMt), k < 258 → sM k = some z → sCall d nf k as h = some (r, h') → h'.length ≤ 1000000 → sMet l base b D dA d z as h r h')
    {sl0 : Nat} {hf : sHp} {v : Option Value} (hfl : hf.length ≤ 1000000) (hRc : base + hf.length ≤ s.heap.size + R.cells) (hRs : sSl hf ≤ sl0 + R.slots)
    (kret : ∀ (pc' : Nat) (ins : Instr) (ls' : Array Slot) (st' : List Value) (H' : Heap) (locs' : List Loc) (cells' slots' : Nat), sRet (mR q) ins st' = some v → decode (mC q) pc' = .ok (ins, 1) → sSt base b D dA s hf H' locs' → s.heap.size + cells' = base + hf.length → slots' + sl0 = sSl hf → W p l e R s m args below meth c H' locs' cells' slots' Q (F0 m pc' ls' (rS (sAd base b) st'))) :
    ∀ (n pc : Nat) (L : sLo) (st : List Value) (h : sHp) (H : Heap) (ls : Array Slot) (locs : List Loc) (cells slots : Nat), sRun X (sFt q) (mR q) (sCal sNA sOwn sVt) (sCall d nf) n pc L st h = some (v, hf) → sSt base b D dA s h H locs → sLs (sAd base b) (mN q) L ls → s.heap.size + cells = base + h.length → slots + sl0 = sSl h → W p l e R s m args below meth c H locs cells slots Q (F0 m pc ls (rS (sAd base b) st)) := by
  have cle : ∀ k as h r h', sCall d nf k as h = some (r, h') → sLe h h' := fun k as h r h' => sCall_le d nf k as h r h'
  intro n
  induction n with
  | zero => intro pc L st h H ls locs cells slots hr; cases hr
  | succ n ih =>
    intro pc L st h H ls locs cells slots hr S hl ac as
    have hle0 := sRun_le cle _ _ _ _ _ _ _ hr
    rw [sRun] at hr
    cases hF : sFt q pc with
    | none => rw [hF] at hr; cases hr
    | some ins =>
      rw [hF] at hr
      dsimp only at hr
      have hx := E.1
      have hb := E.2.1
      split at hr
      · obtain ⟨st1, h1, h2⟩ := Option.bind_eq_some_iff.mp hr
        obtain ⟨r, len, hd, hln, hex⟩ := sChkE_of hq hF (sPure_real h1 []).2.2
        obtain ⟨e1, e2, -⟩ := sPure_real h1 r
        rw [e1] at hd
        have e3 := hln.resolve_left (fun z => by rw [e2] at z; cases z)
        subst e3
        exact s_pure hx hb h1 hd (ih _ _ _ _ _ _ _ _ _ h2 S hl ac as)
      · obtain ⟨z, h1, h2⟩ := Option.bind_eq_some_iff.mp hr
        obtain ⟨r, len, hd, hln, hex⟩ := sChkE_of hq hF (sLoc_real h1 []).2.2
        obtain ⟨e1, e2, -⟩ := sLoc_real h1 r
        rw [e1] at hd
        have e3 := hln.resolve_left (fun z => by rw [e2] at z; cases z)
        subst e3
        exact s_loc hx hb hl h1 hd (fun ls' hl' => ih _ _ _ _ _ _ _ _ _ h2 S hl' ac as)
      · split at hr
        · rename_i st1 h1
          obtain ⟨r, len, hd, hln, hex⟩ := sChkE_of hq hF (sScr_nop h1)
          exact s_scr E S hX h1 hd hln (ih _ _ _ _ _ _ _ _ _ hr S hl ac as)
        · obtain ⟨z, h1, h2⟩ := Option.bind_eq_some_iff.mp hr
          obtain ⟨r, len, hd, hln, hex⟩ := sChkE_of hq hF (sHeap_nop h1).1
          have hle1 := sHeap_le h1
          have hle2 := sRun_le cle _ _ _ _ _ _ _ h2
          have g1 := hle1.1
          have g2 := hle1.2
          have g3 := hle2.1
          have g4 := hle2.2
          exact s_heap E S ac hnm h1 hd hln hex (by omega) (by omega) (by omega) (fun H1 l1 S1 => ih _ _ _ _ _ _ _ _ _ h2 S1 hl (by omega) (by omega))
      · obtain ⟨z, h1, h2⟩ := Option.bind_eq_some_iff.mp hr
        obtain ⟨r, len, hd, hln, hex⟩ := sChkE_of hq hF (sJmp_real h1 []).2.1
        obtain ⟨e1, -, e2⟩ := sJmp_real h1 r
        rw [e1] at hd
        refine s_jmp hx hb h1 hd ?_ (ih _ _ _ _ _ _ _ _ _ h2 S hl ac as)
        rcases e2 with e2 | ⟨dd, ps, rfl⟩ | ⟨e2, e3, e4⟩
        · exact Or.inl e2
        · exact Or.inr (Or.inl ⟨dd, ps, rfl, hex⟩)
        · exact Or.inr (Or.inr ⟨(hln.resolve_left (fun z => by rw [e2] at z; cases z)).trans e3, e4⟩)
      · obtain ⟨z, h1, h2⟩ := Option.map_eq_some_iff.mp hr
        cases h2
        obtain ⟨r, len, hd, hln, hex⟩ := sChkE_of hq hF (sRet_real h1 []).2.2.1
        obtain ⟨e1, e2, -, e4⟩ := sRet_real h1 r
        rw [e1] at hd
        have e3 := (hln.resolve_left (fun z => by rw [e2] at z; cases z)).trans e4
        subst e3
        exact kret _ _ _ _ _ _ _ _ h1 hd S ac as
      · rename_i hkd
        obtain ⟨z, h1, h2⟩ := Option.bind_eq_some_iff.mp hr
        split at h2
        · rename_i hcat
          obtain ⟨y, h3, h4⟩ := Option.bind_eq_some_iff.mp h2
          have hle1 := cle _ _ _ _ _ h3
          have hle2 := sRun_le cle _ _ _ _ _ _ _ h4
          have g1 := hle1.1
          have g2 := hle1.2
          have g3 := hle2.1
          have g4 := hle2.2
          have hsl := hl.2.2.1
          have knx : ∀ (ls0 : Array Slot), ls0 = ls → sNext p l e R s m args below meth c cells slots Q pc ls0 base b D dA h y.1 y.2 z.2.2 := fun ls0 e0 H1 l1 S1 => by
            subst e0
            exact ih _ _ _ _ _ _ _ _ _ h4 S1 hl (by omega) (by omega)
          have hni : ins ≠ .nop := fun z => by rw [z] at hkd; cases hkd
          obtain ⟨r, len, hd, hln, hex⟩ := sChkE_of hq hF hni
          unfold sCal at h1
          split at h1
          · rename_i k
            obtain ⟨w, h5, h6⟩ := Option.map_eq_some_iff.mp h1
            subst h6
            obtain ⟨h7, h8⟩ := sPop_of h5
            have hlen := hln.resolve_left (fun z => by cases z)
            subst hlen
            have hk0 : k < 1000 := by
              rcases Nat.lt_or_ge k 1000 with z | z
              · exact z
              · unfold sKnd at hkd
                dsimp only at hkd
                rw [if_neg (by omega)] at hkd
                cases hkd
            simp only [sExt] at hex
            by_cases hk : k < 258
            · rw [if_pos hk] at hex
              split at hex
              · rename_i idx p1 zz hzz
                simp only [Bool.and_eq_true, beq_iff_eq] at hex
                have hna : sNA k = mA zz := by unfold sNA; rw [hzz]
                have hm := hmet k w.1 h y.1 y.2 zz hk hzz h3 (by omega)
                rw [h7]
                exact s_callStatic E S hsl ac (hgood k zz hk hzz) hex.1 (sWi_in hex.2) hm (h8.trans hna) hcat hRf hRl (by omega) (by omega) (by omega) hd (knx ls rfl)
              · cases hex
            · rw [if_neg hk] at hex
              split at hex
              · simp only [Bool.and_eq_true, decide_eq_true_eq] at hex
                omega
              · cases hex
          · rename_i k
            obtain ⟨w, h5, h6⟩ := Option.bind_eq_some_iff.mp h1
            obtain ⟨h7, h8⟩ := sPop_of h5
            have hlen := hln.resolve_left (fun z => by cases z)
            subst hlen
            have hk0 : k < 1000 := by
              rcases Nat.lt_or_ge k 1000 with z | z
              · exact z
              · unfold sKnd at hkd
                dsimp only at hkd
                rw [if_neg (by omega)] at hkd
                cases hkd
            split at h6
            · rename_i o rr hw2
              split at h6
              · rename_i ob hob
                cases h6
                simp only [sExt] at hex
                by_cases hk : k < 258
                · rw [if_pos hk] at hex
                  rw [h7, hw2]
                  split at hex
                  · rename_i idx p1 zz hzz
                    simp only [Bool.and_eq_true, beq_iff_eq] at hex
                    have hna : sNA k = mA zz := by unfold sNA; rw [hzz]
                    have hm := hmet k _ h y.1 y.2 zz hk hzz h3 (by omega)
                    exact s_callInit E S hsl ac (hgood k zz hk hzz) hex.1 (Or.inl (sWi_in hex.2)) hm (h8.trans hna) hcat hRf hRl (by omega) (by omega) (by omega) hd (knx ls rfl)
                  · rename_i idx zz hzz
                    simp only [Bool.and_eq_true, beq_iff_eq, decide_eq_true_eq] at hex
                    have hna : sNA k = mA zz := by unfold sNA; rw [hzz]
                    have hm := hmet k _ h y.1 y.2 zz hk hzz h3 (by omega)
                    exact s_callInit E S hsl ac (hgood k zz hk hzz) hex.1 (Or.inr hex.2) hm (h8.trans hna) hcat hRf hRl (by omega) (by omega) (by omega) hd (knx ls rfl)
                  · rename_i idx p1 p2 p3 zz hzz
                    unfold sSup at hex
                    simp only [Bool.and_eq_true, beq_iff_eq] at hex
                    have hna : sNA k = mA zz := by unfold sNA; rw [hzz]
                    have hm := hmet k _ h y.1 y.2 zz hk hzz h3 (by omega)
                    obtain ⟨ci, fs⟩ := ob
                    exact s_callUp E S hsl ac hob (hgood k zz hk hzz) hex.1 (sWi_in hex.2.1.1) (sWi_in hex.2.1.2) (sWi_in hex.2.2) hm (h8.trans hna) hcat hRf hRl (by omega) (by omega) (by omega) hd (knx ls rfl)
                  · cases hex
                · rw [if_neg hk] at hex
                  split at hex
                  · simp only [Bool.and_eq_true, decide_eq_true_eq] at hex
                    omega
                  · cases hex
              · cases h6
            · cases h6
          · rename_i k
            have hlen := hln.resolve_left (fun z => by cases z)
            subst hlen
            simp only [sExt] at hex
            split at h1
            · rename_i hk0
              obtain ⟨w, h5, h6⟩ := Option.bind_eq_some_iff.mp h1
              obtain ⟨h7, h8⟩ := sPop_of h5
              split at h6
              · rename_i o rr hw2
                split at h6
                · rename_i ci fs hob
                  split at h6
                  · rename_i hci
                    cases h6
                    by_cases hk : k < 258
                    · rw [if_pos hk] at hex
                      split at hex
                      · rename_i idx p1 zz hzz
                        simp only [Bool.and_eq_true, beq_iff_eq] at hex
                        obtain ⟨⟨x1, x2⟩, x3⟩ := hex
                        split at x3
                        · have hna : sNA k = mA zz := by unfold sNA; rw [hzz]
                          have how : sOwn k = mI zz := by unfold sOwn; rw [hzz]
                          have hm := hmet k _ h y.1 y.2 zz hk hzz h3 (by omega)
                          rw [h7, hw2]
                          rw [hci, how] at hob
                          exact s_callVirt E S hsl ac hob (hgood k zz hk hzz) x1 (sWi_in x2) (sWi_in x3) hm (h8.trans hna) hcat hRf hRl (by omega) (by omega) (by omega) hd (knx ls rfl)
                        · cases x3
                      · cases hex
                    · rw [if_neg hk] at hex
                      split at hex
                      · simp only [Bool.and_eq_true, decide_eq_true_eq] at hex
                        omega
                      · cases hex
                  · cases h6
                · cases h6
              · cases h6
            · rename_i hk0
              obtain ⟨w, h5, h6⟩ := Option.bind_eq_some_iff.mp h1
              obtain ⟨h7, h8⟩ := sPop_of h5
              split at h6
              · rename_i o rr hw2
                split at h6
                · rename_i ci fs hob
                  split at h6
                  · rename_i hci
                    cases h6
                    rw [if_neg (by omega)] at hex
                    split at hex
                    · simp only [Bool.and_eq_true, decide_eq_true_eq] at hex
                      obtain ⟨⟨x1, x2⟩, x3⟩ := hex
                      obtain ⟨zz, zx, e1, a1, a2, a3, a4, -⟩ := sFam_of x1 x2 hci.2 hci.1
                      have hm := hmet _ _ h y.1 y.2 zz a1 e1 h3 (by omega)
                      rw [h7, hw2]
                      exact s_callFam E S hsl ac x1 x2 hci.2 hci.1 hob e1 (hgood _ zz a1 e1) (sWi_in x3) hm (h8.trans (by unfold sVt; rfl)) hcat hRf hRl (by omega) (by omega) (by omega) hd (knx ls rfl)
                    · cases hex
                  · cases h6
                · cases h6
              · cases h6
          · cases h1
        · cases h2
      · rename_i hk5
        split at hr
        · rename_i hcat
          obtain ⟨st1, h1, h2⟩ := Option.bind_eq_some_iff.mp hr
          have hni : ins ≠ .nop := fun z => by rw [z] at h1; cases h1
          obtain ⟨r, len, hd, hln, hex⟩ := sChkE_of hq hF hni
          have g1 := hle0.1
          have g2 := hle0.2
          exact s_spec E hl.2.2.1 (by assumption) h1 hcat hd hln hex (by omega) (by omega) (by omega) (by omega) (ih _ _ _ _ _ _ _ _ _ h2 S hl ac as)
        · cases hr
theorem s_met (l : Launch) (base b : Nat) (D : va_G) (dA : Nat → ClassId) : ∀ (d n k : Nat) (as : List Value) (h : sHp) (r : Option Value) (h' : sHp) (q : sMt), k < 258 → sM k = some q → sCall d n k as h = some (r, h') → h'.length ≤ 1000000 → sMet l base b D dA d q as h r h' := by
  intro d
  induction d with
  | zero => intro n k as h r h' q _ _ hr; cases hr
  | succ d ih =>
    intro n k as h r h' q hk hq hr hl
    have hle := sCall_le _ _ _ _ _ _ _ hr
    rw [sCall] at hr
    obtain ⟨q', h1, h2⟩ := Option.bind_eq_some_iff.mp hr
    cases hq.symm.trans h1
    obtain ⟨L, h3, h4⟩ := Option.bind_eq_some_iff.mp h2
    obtain ⟨hm, he⟩ := sOk_m k hk q hq
    refine Met.ofW (cc := mC q) (maxL := mN q) (ret := mR q) (sChkM_of hm).2.2.2.2.1 rfl ?_
    intro p e s m args below meth c s₁ B hml hv
    obtain ⟨rfl, hsz, hP, hK, hN⟩ := hv
    have hts : ∀ w ∈ sTB, w.before ((as.map (rV (sAd base b))).toArray) s = true := fun w hw => atoms_spec (ws := sWs q) B.pre w (List.mem_cons_of_mem _ hw)
    have hown : s.vm.findClass (mY q).cls = some m.cls := findClass_of_methodNamed B.named
    have hnm : meth.name = (mY q).name := (name_of_methodNamed B.named B.method).1
    rw [lg_entry_eq]
    have g1 := hle.1
    have g2 := hle.2
    refine s_run (d := d) (nf := n) (X := none) (sl0 := sSl h) (hf := h') (v := r) he ⟨B.exec, B.bytes, hml, hown, hts, hK, by omega, hN⟩ hnm ((fun _ _ z => by cases z)) (by show d + 1 ≤ d + 1; omega) (by show 40 * (d + 1) ≤ 40 * (d + 1); omega) (fun k z hk hz => (sOk_m k hk z hz).1) (fun k as h r h' z hk hz => ih n k as h r h' z hk hz) hl (by show base + h'.length ≤ s.heap.size + (h'.length - h.length); omega) (by show sSl h' ≤ sSl h + (sSl h' - sSl h); omega) ?_ n 0 L [] h s.heap _ [] 0 0 h4 ⟨hP, va_S.rf, by omega⟩ (s_ini h3) (by omega) (by omega)
    intro pc' ins ls' st' H' locs' cells' slots' q1 q2 q3 q4 q5
    obtain rfl : cells' = h'.length - h.length := by omega
    obtain rfl : slots' = sSl h' - sSl h := by omega
    exact s_ret B.exec B.bytes q1 B.returns B.notSynchronized (fun t ht _ => ⟨⟨rfl, by rw [ht]; exact q3.1⟩, q3.2.1.F ht⟩) q3.2.1.2.2 q2
end ALL
