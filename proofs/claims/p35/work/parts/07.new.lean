/-! ===== new cells, constants, jumps, ends ===== -/
section NEW
variable {p : Program} {l : Launch} {e : Env} {R : Room} {s : State} {m : MethodId} {args : Array Value} {below : List Frame} {meth : Method} {c : Code} {H : Heap} {locs : List Loc} {cells slots : Nat} {Q : State → Prop} {cc : ByteArray} {pc : Nat} {ls : Array Slot} {nL base : Nat} {b : Nat → Nat} {D : va_G} {dA : Nat → ClassId} {own : String}
theorem W_size {g : JFrame} (k : H.size ≤ s.heap.size + cells → W p l e R s m args below meth c H locs cells slots Q g) : W p l e R s m args below meth c H locs cells slots Q g := fun T hT X => k (by rw [← hT]; exact X.heapSize) T hT X
theorem s_size {h : sHp} (S : sSt base b D dA s h H locs) (hb : base ≤ s.heap.size) (ac : s.heap.size + cells = base + h.length) (hz : H.size ≤ s.heap.size + cells) : H.size = base + h.length := by
  cases hl : h.length with
  | zero =>
    have := S.2.1.1
    omega
  | succ n =>
    have hn : n < h.length := by omega
    have h1 := (S.1 n _ (rW_at (List.getElem?_eq_getElem hn))).lt
    have h2 : sAd base b n = base + n := sAd_in (by have := S.2.2; omega)
    have h3 : sAd base b n < H.size := h1
    omega
theorem rV_def (σ : Nat → Nat) (ty : FieldType) : rV σ (defaultValue ty) = defaultValue ty := by cases ty <;> rfl
theorem s_push {h : sHp} (S : sSt base b D dA s h H locs) (hs : H.size = base + h.length) (hl : h.length < 1000000) {x : va_E} {H1 : Heap} (hx : va_at D vwCl (base + h.length, rC (sAd base b) dA x) H1) (ho : ∀ q, q < base + h.length → H1[q]? = H[q]?) (hz : H.size ≤ H1.size) : sSt base b D dA s (h ++ [x]) H1 locs := by
  refine ⟨?_, ⟨Nat.le_trans S.2.1.1 hz, fun q h1 h2 => (ho q (by have := S.2.1.1; omega)).trans (S.2.1.2.1 q h1 h2), S.2.1.2.2⟩, by rw [List.length_append]; exact hl⟩
  rw [rW_app, sAd_in hl]
  refine (S.1.kept fun k y hk => ho y.1 (by have := (S.1 k y hk).lt; omega)).app fun k y hk => ?_
  have h0 : k < 1 := (List.getElem?_eq_some_iff.mp hk).1
  rw [show k = 0 by omega] at hk
  cases hk
  exact hx
def sNewOk (own : String) (idx k : Nat) : Prop := ∃ q, vwCl[k]? = some q ∧ Jvm.Cond.classLink own idx q.1 ∈ sTB ∧ Jvm.Cond.instantiable q.1 q.2.2 ∈ sTB ∧ Jvm.Cond.initialized q.1 ∈ sTB
theorem s_new (E : sEnv p s m c args cc nL base b D dA own) {h h' : sHp} (S : sSt base b D dA s h H locs) (ac : s.heap.size + cells = base + h.length) {k idx : Nat} (hdg : decode cc pc = .ok (.new idx, 3)) (hf : sNewOk own idx k) {st st' : List Value} (hh : sNew k st h = some (st', h')) (hl : h'.length ≤ 1000000)
    (hc : cells + (h'.length - h.length) ≤ R.cells) (hs : slots + (sSl h' - sSl h) ≤ R.slots)
    (kk : ∀ (H1 : Heap), sSt base b D dA s h' H1 locs → W p l e R s m args below meth c H1 locs (cells + (h'.length - h.length)) (slots + (sSl h' - sSl h)) Q (F0 m (pc + 3) ls (rS (sAd base b) st'))) : W p l e R s m args below meth c H locs cells slots Q (F0 m pc ls (rS (sAd base b) st)) := by
  obtain ⟨hx, hb, hml, hown, hts, hK, hbs, hnw, hou⟩ := E
  obtain ⟨q, hq, f1, f2, f3⟩ := hf
  unfold sNew at hh
  split at hh
  · cases hh
    have hsz : sSl (h ++ [.inr (k, sDef k)]) - sSl h = q.2.2 := by
      rw [sSl_app]
      show sSl h + ((sDef k).length + 0) - sSl h = _
      have : (sDef k).length = q.2.2 := by unfold sDef sNF; rw [hq, List.length_map, List.length_range]
      omega
    have hln : (h ++ [(.inr (k, sDef k) : va_E)]).length - h.length = 1 := by rw [List.length_append]; simp
    rw [hln] at hc kk
    rw [hsz] at hs kk
    have hl1 : h.length < 1000000 := by rw [List.length_append] at hl; exact hl
    refine W_size fun hz => ?_
    have hH := s_size S hbs ac hz
    obtain ⟨C, T, N⟩ := q
    obtain ⟨c1, c2, c3⟩ := sCF_all k _ hq
    have hKn := hK.1 k _ hq
    refine W.newcK hx hb hown (hts _ f1) (hts _ f2) (hts _ f3) rfl hdg hc hs hKn.2.1 hH fun H1 kC hkC e1 z1 o1 => ?_
    have h2 := kk H1 (s_push S hH hl1 ⟨_, hq, (u_born (sTy k) hts c1 hKn hkC e1 c2).to fun j hj => ?_⟩ o1 (by omega))
    · rw [rS, List.map_cons] at h2
      have e5 : rV (sAd base b) (.ref h.length) = .ref (base + h.length) := by show Value.ref (sAd base b h.length) = _; rw [sAd_in hl1]
      rw [e5] at h2
      exact h2
    · have hN : sNF k = N := by unfold sNF; rw [hq]
      show defaultValue (sTy k j) = vp_V ((sDef k).map (rV (sAd base b))) j
      unfold vp_V sDef
      rw [hN, List.map_map, List.getD_eq_getElem?_getD, List.getElem?_map, List.getElem?_range hj]
      show _ = rV (sAd base b) (defaultValue (sTy k j))
      rw [rV_def]
  · cases hh
theorem s_newAt (E : sEnv p s m c args cc nL base b D dA own) {h : sHp} (S : sSt base b D dA s h H locs) (ac : s.heap.size + cells = base + h.length) {aty : ArrayType} (hdg : decode cc pc = .ok (.newarray aty, 2)) (hw : Jvm.Cond.arrayClass (newarray.typeOf aty) ∈ sTB) {n : Int32} {r : List Value} (hn : ¬ (n < 0 ∨ 100000 < n.toNatClampNeg)) (hl : h.length < 1000000)
    (hc : cells + 1 ≤ R.cells) (hs : slots + n.toNatClampNeg ≤ R.slots) {t : Nat} {d : vp_A} (ht : s.vm.findClass ("[" ++ (newarray.typeOf aty).toString) = some (dA t)) (hb8 : componentBytes (newarray.typeOf aty) ≤ 8) (hd : ∀ cA, vp_cell cA (rA (sAd base b) d) = arrV cA n.toNatClampNeg (fun _ => defaultValue (newarray.typeOf aty)))
    (kk : ∀ (H1 : Heap), sSt base b D dA s (h ++ [.inl (t, d)]) H1 locs → W p l e R s m args below meth c H1 locs (cells + 1) (slots + n.toNatClampNeg) Q (F0 m (pc + 2) ls (rS (sAd base b) (.ref h.length :: r)))) : W p l e R s m args below meth c H locs cells slots Q (F0 m pc ls (rS (sAd base b) (.int n :: r))) := by
  obtain ⟨hx, hb, hml, hown, hts, hK, hbs, hnw, hou⟩ := E
  refine W_size fun hz => ?_
  have hH := s_size S hbs ac hz
  have hn1 : ¬ n < 0 := fun q => hn (Or.inl q)
  have hn2 : n.toNatClampNeg ≤ 100000 := by
    rcases Nat.lt_or_ge 100000 n.toNatClampNeg with q | q
    · exact absurd (Or.inr q) hn
    · exact q
  refine va_newaK hx hb (hts _ hw) rfl hdg rfl hn1 rfl (Nat.le_trans (Nat.mul_le_mul hn2 hb8) (by decide)) hc hs hH fun H1 cA e1 z1 o1 hAr hNm => ?_
  have e : cA = dA t := Option.some.inj (hNm.symm.trans ht)
  subst e
  have h2 := kk H1 (s_push S hH hl (by
    show H1[base + h.length]? = some (vp_cell (dA t) (rA (sAd base b) d))
    rw [hd]
    exact e1) o1 (by omega))
  rw [rS, List.map_cons] at h2
  have e5 : rV (sAd base b) (.ref h.length) = .ref (base + h.length) := by show Value.ref (sAd base b h.length) = _; rw [sAd_in hl]
  rw [e5] at h2
  exact h2
theorem s_newA (E : sEnv p s m c args cc nL base b D dA own) {h h' : sHp} (S : sSt base b D dA s h H locs) (ac : s.heap.size + cells = base + h.length) {aty : ArrayType} (hdg : decode cc pc = .ok (.newarray aty, 2)) (hw : Jvm.Cond.arrayClass (newarray.typeOf aty) ∈ sTB) {st st' : List Value} (hh : sNewA aty st h = some (st', h')) (hl : h'.length ≤ 1000000)
    (hc : cells + (h'.length - h.length) ≤ R.cells) (hs : slots + (sSl h' - sSl h) ≤ R.slots)
    (kk : ∀ (H1 : Heap), sSt base b D dA s h' H1 locs → W p l e R s m args below meth c H1 locs (cells + (h'.length - h.length)) (slots + (sSl h' - sSl h)) Q (F0 m (pc + 2) ls (rS (sAd base b) st'))) : W p l e R s m args below meth c H locs cells slots Q (F0 m pc ls (rS (sAd base b) st)) := by
  have hK : va_K D vwCl (sTys dA) s := E.2.2.2.2.2.1
  have key : ∀ (x : va_E) (n : Nat), sSz x = n → (h ++ [x]).length - h.length = 1 ∧ sSl (h ++ [x]) - sSl h = n := by
    intro x n hx
    refine ⟨by rw [List.length_append]; simp, ?_⟩
    rw [sSl_app]
    show sSl h + (sSz x + 0) - sSl h = n
    omega
  unfold sNewA at hh
  split at hh
  · rename_i n r
    split at hh
    · cases hh
    · rename_i hn
      split at hh
      · cases hh
        obtain ⟨k1, k2⟩ := key (.inl (0, n.toNatClampNeg, .inl (fun _ => 0))) _ rfl
        rw [k1] at hc kk
        rw [k2] at hs kk
        rw [List.length_append] at hl
        exact s_newAt E S ac hdg hw hn hl hc hs (hK.2 0 _ rfl).2 (by decide) (fun cA => rfl) kk
      · cases hh
        obtain ⟨k1, k2⟩ := key (.inl (1, n.toNatClampNeg, .inr (.inl (fun _ => 0)))) _ rfl
        rw [k1] at hc kk
        rw [k2] at hs kk
        rw [List.length_append] at hl
        exact s_newAt E S ac hdg hw hn hl hc hs (hK.2 1 _ rfl).2 (by decide) (fun cA => rfl) kk
      · cases hh
        obtain ⟨k1, k2⟩ := key (.inl (2, n.toNatClampNeg, .inl (fun _ => 0))) _ rfl
        rw [k1] at hc kk
        rw [k2] at hs kk
        rw [List.length_append] at hl
        exact s_newAt E S ac hdg hw hn hl hc hs (hK.2 2 _ rfl).2 (by decide) (fun cA => rfl) kk
      · cases hh
  · cases hh
def sNewQOk (own : String) (idx k : Nat) : Prop := (k = 3 ∧ Jvm.Cond.classLink own idx RX7 ∈ sTB) ∨ (k = 4 ∧ Jvm.Cond.classLink own idx RX2 ∈ sTB)
theorem s_newQ (E : sEnv p s m c args cc nL base b D dA own) {h h' : sHp} (S : sSt base b D dA s h H locs) (ac : s.heap.size + cells = base + h.length) {k idx : Nat} (hdg : decode cc pc = .ok (.anewarray idx, 3)) (hf : sNewQOk own idx k) {st st' : List Value} (hh : sNewQ k st h = some (st', h')) (hl : h'.length ≤ 1000000)
    (hc : cells + (h'.length - h.length) ≤ R.cells) (hs : slots + (sSl h' - sSl h) ≤ R.slots)
    (kk : ∀ (H1 : Heap), sSt base b D dA s h' H1 locs → W p l e R s m args below meth c H1 locs (cells + (h'.length - h.length)) (slots + (sSl h' - sSl h)) Q (F0 m (pc + 3) ls (rS (sAd base b) st'))) : W p l e R s m args below meth c H locs cells slots Q (F0 m pc ls (rS (sAd base b) st)) := by
  obtain ⟨hx, hb, hml, hown, hts, hK, hbs, hnw, hou⟩ := E
  unfold sNewQ at hh
  split at hh
  · rename_i n r
    split at hh
    · cases hh
    · rename_i hn
      cases hh
      have hn1 : ¬ n < 0 := fun q => hn (Or.inl q)
      have hn2 : n.toNatClampNeg ≤ 100000 := by
        rcases Nat.lt_or_ge 100000 n.toNatClampNeg with q | q
        · exact absurd (Or.inr (Or.inl q)) hn
        · exact q
      have k1 : (h ++ [(.inl (k, n.toNatClampNeg, .inr (.inr (.inr (.inr (fun _ => none))))) : va_E)]).length - h.length = 1 := by rw [List.length_append]; simp
      have k2 : sSl (h ++ [(.inl (k, n.toNatClampNeg, .inr (.inr (.inr (.inr (fun _ => none))))) : va_E)]) - sSl h = n.toNatClampNeg := by
        rw [sSl_app]
        show sSl h + (n.toNatClampNeg + 0) - sSl h = _
        omega
      rw [k1] at hc kk
      rw [k2] at hs kk
      rw [List.length_append] at hl
      have hl1 : h.length < 1000000 := hl
      refine W_size fun hz => ?_
      have hH := s_size S hbs ac hz
      have go : ∀ (C : String), Jvm.Cond.classLink own idx C ∈ sTB → (Jvm.Cond.arrayOver (.object C)).before #[] s = true → s.vm.findClass ("[" ++ (FieldType.object C).toString) = some (dA k) → W p l e R s m args below meth c H locs cells slots Q (F0 m pc ls (rS (sAd base b) (.int n :: r))) := by
        intro C w1 w2 w3
        refine W.anew hx hb hown (hts _ w1) (va_AO.use w2) rfl hdg rfl hn1 (by omega) hc hs fun cA kA comp f1 f2 f3 f4 => ?_
        have e : cA = dA k := Option.some.inj (f1.symm.trans w3)
        subst e
        have h2 := kk _ (s_push (H1 := H.push { cls := dA k, slots := Array.replicate n.toNatClampNeg .null, vm := .none }) S hH hl1 (by
          show (H.push _)[base + h.length]? = some (vp_cell (dA k) (n.toNatClampNeg, .inr (.inr (.inr (.inr (fun _ => none))))))
          rw [vp_cell_q, ← hH, Array.getElem?_push_size, arrV_new]
          rfl) (fun q hq => by rw [Array.getElem?_push, if_neg (by omega)]) (by rw [Array.size_push]; omega))
        rw [rS, List.map_cons] at h2
        have e5 : rV (sAd base b) (.ref h.length) = .ref H.size := by show Value.ref (sAd base b h.length) = _; rw [sAd_in hl1, hH]
        rw [e5] at h2
        exact h2
      rcases hf with ⟨rfl, hf⟩ | ⟨rfl, hf⟩
      · obtain ⟨_, _, _, _, _, w⟩ := (hK.2 3 _ rfl).2
        exact go RX7 hf (hnw _ (by simp [sNwl])) w
      · obtain ⟨_, _, _, _, _, w⟩ := (hK.2 4 _ rfl).2
        exact go RX2 hf (hnw _ (by simp [sNwl])) w
  · cases hh
/-! jumps -/
theorem sTgt_of {off : Int} {t : Nat} (h : sTgt pc off = some t) : (pc : Int) + off = (t : Int) := by
  unfold sTgt at h
  split at h
  · rename_i t' e
    cases h
    exact e
  · cases h
theorem sIf_of {off : Int} {bb : Bool} {r st' : List Value} {pc' : Nat} (h : sIf pc off bb r = some (pc', st'))   : ∃ t : Nat, (pc : Int) + off = (t : Int) ∧ pc' = (bif bb then t else pc + 3) ∧ st' = r := by
  unfold sIf at h
  split at h
  · rename_i t e
    cases h
    exact ⟨t, sTgt_of e, rfl, rfl⟩
  · cases h
set_option maxHeartbeats 4000000 in
theorem s_jmp (hx : p.tables.exec = Jvm.exec) (hb : c.code = cc) {σ : Nat → Nat} {ins : Instr} {pc' len : Nat} {st st' : List Value} (h : sJmp ins pc st = some (pc', st')) (hdg : decode cc pc = .ok (ins, len)) (hlen : (∃ d lo hi o, ins = .tableswitch d lo hi o) ∨ (∃ d ps, ins = .lookupswitch d ps ∧ (ps.toList.zip (ps.toList.drop 1)).all (fun (a, next) => a.1 < next.1) = true) ∨ (len = 3 ∧ ∀ d ps, ins ≠ .lookupswitch d ps))
    (kk : W p l e R s m args below meth c H locs cells slots Q (F0 m pc' ls (rS σ st'))) : W p l e R s m args below meth c H locs cells slots Q (F0 m pc ls (rS σ st)) := by
  unfold sJmp at h
  split at h
  · rename_i off
    rcases hlen with ⟨_, _, _, _, q⟩ | ⟨_, _, q, _⟩ | ⟨rfl, -⟩
    · cases q
    · cases q
    obtain ⟨t, h1, h2⟩ := Option.map_eq_some_iff.mp h
    cases h2
    exact lv_goto hx hb hdg (sTgt_of h1) kk
  · rename_i cnd off
    rcases hlen with ⟨_, _, _, _, q⟩ | ⟨_, _, q, _⟩ | ⟨rfl, -⟩
    · cases q
    · cases q
    split at h
    · rename_i y x r
      obtain ⟨t, ht, h2, rfl⟩ := sIf_of h
      subst h2
      cases cnd
      · exact lv_icmp_eq hx hb hdg ht (fun q => by rw [show sC2 .eq x y = true from decide_eq_true q] at kk; exact kk) (fun q => by rw [show sC2 .eq x y = false from decide_eq_false q] at kk; exact kk)
      · exact lv_icmp_ne hx hb hdg ht (fun q => by rw [show sC2 .ne x y = true from by show (!decide (x = y)) = true; rw [decide_eq_false q]; rfl] at kk; exact kk) (fun q => by rw [show sC2 .ne x y = false from by show (!decide (x = y)) = false; rw [decide_eq_true q]; rfl] at kk; exact kk)
      · exact lv_icmp_lt hx hb hdg ht (fun q => by rw [show sC2 .lt x y = true from decide_eq_true q] at kk; exact kk) (fun q => by rw [show sC2 .lt x y = false from decide_eq_false q] at kk; exact kk)
      · exact lv_icmp_ge hx hb hdg ht (fun q => by rw [show sC2 .ge x y = true from decide_eq_true q] at kk; exact kk) (fun q => by rw [show sC2 .ge x y = false from decide_eq_false q] at kk; exact kk)
      · exact lv_icmp_gt hx hb hdg ht (fun q => by rw [show sC2 .gt x y = true from decide_eq_true q] at kk; exact kk) (fun q => by rw [show sC2 .gt x y = false from decide_eq_false q] at kk; exact kk)
      · exact lv_icmp_le hx hb hdg ht (fun q => by rw [show sC2 .le x y = true from decide_eq_true q] at kk; exact kk) (fun q => by rw [show sC2 .le x y = false from decide_eq_false q] at kk; exact kk)
    · cases h
  · rename_i cnd off
    rcases hlen with ⟨_, _, _, _, q⟩ | ⟨_, _, q, _⟩ | ⟨rfl, -⟩
    · cases q
    · cases q
    split at h
    · rename_i x r
      obtain ⟨t, ht, h2, rfl⟩ := sIf_of h
      subst h2
      cases cnd
      · exact lv_if_eq hx hb hdg ht (fun q => by rw [show sC2 .eq x 0 = true from decide_eq_true q] at kk; exact kk) (fun q => by rw [show sC2 .eq x 0 = false from decide_eq_false q] at kk; exact kk)
      · exact lv_if_ne hx hb hdg ht (fun q => by rw [show sC2 .ne x 0 = true from by show (!decide (x = 0)) = true; rw [decide_eq_false q]; rfl] at kk; exact kk) (fun q => by rw [show sC2 .ne x 0 = false from by show (!decide (x = 0)) = false; rw [decide_eq_true q]; rfl] at kk; exact kk)
      · exact lv_if_lt hx hb hdg ht (fun q => by rw [show sC2 .lt x 0 = true from decide_eq_true q] at kk; exact kk) (fun q => by rw [show sC2 .lt x 0 = false from decide_eq_false q] at kk; exact kk)
      · exact lv_if_ge hx hb hdg ht (fun q => by rw [show sC2 .ge x 0 = true from decide_eq_true q] at kk; exact kk) (fun q => by rw [show sC2 .ge x 0 = false from decide_eq_false q] at kk; exact kk)
      · exact lv_if_gt hx hb hdg ht (fun q => by rw [show sC2 .gt x 0 = true from decide_eq_true q] at kk; exact kk) (fun q => by rw [show sC2 .gt x 0 = false from decide_eq_false q] at kk; exact kk)
      · exact lv_if_le hx hb hdg ht (fun q => by rw [show sC2 .le x 0 = true from decide_eq_true q] at kk; exact kk) (fun q => by rw [show sC2 .le x 0 = false from decide_eq_false q] at kk; exact kk)
    · cases h
  · rename_i off
    rcases hlen with ⟨_, _, _, _, q⟩ | ⟨_, _, q, _⟩ | ⟨rfl, -⟩
    · cases q
    · cases q
    split at h
    · obtain ⟨t, ht, h2, rfl⟩ := sIf_of h
      subst h2
      exact lv_ifnullN hx hb hdg ht kk
    · obtain ⟨t, ht, h2, rfl⟩ := sIf_of h
      subst h2
      exact lv_ifnull hx hb hdg kk
    · cases h
  · rename_i off
    rcases hlen with ⟨_, _, _, _, q⟩ | ⟨_, _, q, _⟩ | ⟨rfl, -⟩
    · cases q
    · cases q
    split at h
    · obtain ⟨t, ht, h2, rfl⟩ := sIf_of h
      subst h2
      exact lv_ifnonnullN hx hb hdg kk
    · obtain ⟨t, ht, h2, rfl⟩ := sIf_of h
      subst h2
      exact lv_ifnonnull hx hb hdg ht kk
    · cases h
  · rename_i dflt lo hi offs
    split at h
    · rename_i x r
      split at h
      · rename_i hc
        obtain ⟨t, h1, h2⟩ := Option.map_eq_some_iff.mp h
        cases h2
        exact lv_tableOut hx hb hdg hc (sTgt_of h1) kk
      · rename_i hc
        split at h
        · rename_i off ho
          obtain ⟨t, h1, h2⟩ := Option.map_eq_some_iff.mp h
          cases h2
          exact lv_tableIn hx hb hdg (fun q => hc (Or.inl q)) (fun q => hc (Or.inr q)) ho (sTgt_of h1) kk
        · cases h
    · cases h
  · rename_i dflt ps
    rcases hlen with ⟨_, _, _, _, q⟩ | ⟨_, _, q, hp⟩ | ⟨-, q⟩
    · cases q
    · cases q
      split at h
      · rename_i x r
        obtain ⟨t, h1, h2⟩ := Option.map_eq_some_iff.mp h
        cases h2
        exact lv_lookup hx hb hdg hp rfl (sTgt_of h1) kk
      · cases h
    · exact absurd rfl (q _ _)
  · cases h
/-! ends -/
theorem s_ret (hx : p.tables.exec = Jvm.exec) (hb : c.code = cc) {σ : Nat → Nat} {Qc : Array Value → State → Outcome → State → Prop} {free : Addr → Prop} {rt : Option FieldType} {ins : Instr} {st : List Value} {v : Option Value} (h : sRet rt ins st = some v) (hr : meth.sig.returnType = rt) (hlocks : meth.locks = false)
    (hq : ∀ t : State, t.heap = H → s.WarmedH t.vm → Qc args s (.returned (v.map (rV σ))) t) (hf : ∀ q ∈ locs, free q.base) (hdg : decode cc pc = .ok (ins, 1)) : W p l e R s m args below meth c H locs cells slots (MQ below Qc args s cells slots free) (F0 m pc ls (rS σ st)) := by
  unfold sRet at h
  split at h
  · split at h
    · split at h
      · rename_i hn
        cases h
        exact W.zret hx hb hr hn hq hf hdg hlocks
      · cases h
    · cases h
  · split at h
    · cases h
      exact W.lret hx hb hr hq hf hdg hlocks
    · cases h
  · split at h
    · cases h
      exact W.aret hx hb hr (Or.inl ⟨_, rfl⟩) (Or.inr ⟨_, rfl⟩) hq hf hdg hlocks
    · cases h
      exact W.aret hx hb hr (Or.inl ⟨_, rfl⟩) (Or.inl rfl) hq hf hdg hlocks
    · cases h
  · split at h
    · cases h
      exact W.vret hx hb hr hq hf hdg hlocks
    · cases h
  · cases h
end NEW
