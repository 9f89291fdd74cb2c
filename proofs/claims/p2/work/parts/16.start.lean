/-! ===== the start: what the tables give, and the walk out of a run of the simple machine ===== -/
theorem sInst (ci : Nat) (q : vw_C) (h : vwCl[ci]? = some q) : Jvm.Cond.instantiable q.1 q.2.2 ∈ sTB := by
  match ci, h with
  | 0, h => cases h; exact sW_in (p := 2158) (by decide +kernel)
  | 1, h => cases h; exact sW_in (p := 2132) (by decide +kernel)
  | 2, h => cases h; exact sW_in (p := 2196) (by decide +kernel)
  | 3, h => cases h; exact sW_in (p := 1052) (by decide +kernel)
  | 4, h => cases h; exact sW_in (p := 2171) (by decide +kernel)
  | 5, h => cases h; exact sW_in (p := 2145) (by decide +kernel)
  | 6, h => cases h; exact sW_in (p := 3096) (by decide +kernel)
  | 7, h => cases h; exact sW_in (p := 1031) (by decide +kernel)
  | 8, h => cases h; exact sW_in (p := 1140) (by decide +kernel)
  | 9, h => cases h; exact sW_in (p := 2065) (by decide +kernel)
  | 10, h => cases h; exact sW_in (p := 2184) (by decide +kernel)
  | 11, h => cases h; exact sW_in (p := 1022) (by decide +kernel)
  | 12, h => cases h; exact sW_in (p := 5174) (by decide +kernel)
  | k + 13, h => simp [vwCl] at h
theorem sNw_start {s : State} {args : Array Value} (hts : ∀ w ∈ lw_tbl, w.before args s = true) : sNw s := by
  intro w hw
  simp only [sNwl, List.mem_cons, List.not_mem_nil, or_false] at hw
  rcases hw with rfl | rfl | rfl | rfl | rfl | rfl | rfl | rfl | rfl | rfl | rfl
  · exact va_AO.of (hts _ (List.mem_append_right _ (List.mem_of_getElem? (i := 30) (by decide +kernel))))
  · exact va_AO.of (hts _ (List.mem_append_right _ (List.mem_of_getElem? (i := 32) (by decide +kernel))))
  · exact sAO_moved (Vm.Alike.refl s.vm) (hts _ (List.mem_append_right _ (List.mem_of_getElem? (i := 61) (by decide +kernel))))
  · exact va_Nw.of rfl (hts _ (List.mem_append_right _ (List.mem_of_getElem? (i := 1616) (by decide +kernel))))
  · exact va_Nw.of rfl (hts _ (List.mem_append_right _ (List.mem_of_getElem? (i := 1617) (by decide +kernel))))
  · exact va_Nw.of rfl (hts _ (List.mem_append_right _ (List.mem_of_getElem? (i := 1618) (by decide +kernel))))
  · exact va_Nw.of rfl (hts _ (List.mem_append_right _ (List.mem_of_getElem? (i := 1619) (by decide +kernel))))
  · exact va_Nw.of rfl (hts _ (List.mem_append_right _ (List.mem_of_getElem? (i := 1620) (by decide +kernel))))
  · exact va_Nw.of rfl (hts _ (List.mem_append_right _ (List.mem_of_getElem? (i := 1621) (by decide +kernel))))
  · exact va_Nw.of rfl (hts _ (List.mem_append_right _ (List.mem_of_getElem? (i := 34) (by decide +kernel))))
  · exact va_Nw.of rfl (hts _ (List.mem_append_right _ (List.mem_of_getElem? (i := 145) (by decide +kernel))))
theorem s_known {s : State} {args : Array Value} (hts : ∀ w ∈ sTB, w.before args s = true) : ∃ D : va_G, ∀ (ci : Nat) (q : vw_C), vwCl[ci]? = some q → u_Kn s q.1 q.2.1 q.2.2 (D.1 ci) (D.2 ci) := by
  have h : ∀ ci : Nat, ∃ (cC : ClassId) (iS : Nat → Nat), ∀ q, vwCl[ci]? = some q → u_Kn s q.1 q.2.1 q.2.2 cC iS := by
    intro ci
    cases hq : vwCl[ci]? with
    | none => exact ⟨0, fun _ => 0, fun q h => by cases h⟩
    | some q =>
      obtain ⟨cC, iS, hk⟩ := u_known (ws := sTB) hts (sCF_all ci q hq).1 (hts _ (sInst ci q hq))
      exact ⟨cC, iS, fun q' h => by cases h; exact hk⟩
  exact ⟨(fun ci => Classical.choose (h ci), fun ci => Classical.choose (Classical.choose_spec (h ci))), fun ci q hq => Classical.choose_spec (Classical.choose_spec (h ci)) q hq⟩
theorem s_arrs {s : State} {args : Array Value} (hts : ∀ w ∈ sTB, w.before args s = true) (hn : sNw s) : ∃ dA : Nat → ClassId, ∀ (k : Nat) (q : ClassId × FieldType), (sTys dA)[k]? = some q → ArrOfT s q.1 q.2 ∧ va_RA s q.1 q.2 := by
  obtain ⟨c0, k0, x0, a1, a2, a3⟩ := Cond.arrayClass_spec (hts (.arrayClass .int) (sW_in (p := 1137) (by decide +kernel)))
  obtain ⟨c1, k1, x1, b1, b2, b3⟩ := Cond.arrayClass_spec (hts (.arrayClass .long) (sW_in (p := 1050) (by decide +kernel)))
  obtain ⟨c2, k2, x2, d1, d2, d3⟩ := Cond.arrayClass_spec (hts (.arrayClass .boolean) (sW_in (p := 1138) (by decide +kernel)))
  obtain ⟨x3, c3, k3, e1, e2, e3, e4, e5⟩ := Cond.arrayOver_spec (hn (.arrayOver (.object RX7)) (by simp [sNwl]))
  obtain ⟨x4, c4, k4, f1, f2, f3, f4, f5⟩ := Cond.arrayOver_spec (hn (.arrayOver (.object RX2)) (by simp [sNwl]))
  obtain ⟨x5, c5, k5, g1, g2, g3, g4, g5⟩ := sAO_use (hn (.arrayOver (.array .int)) (by simp [sNwl]))
  refine ⟨fun t => match t with | 0 => c0 | 1 => c1 | 2 => c2 | 3 => c3 | 4 => c4 | _ => c5, fun k q hq => ?_⟩
  match k, hq with
  | 0, hq => cases hq; exact ⟨fun n z => ⟨(fun k h => by cases h), k0, a2, x0, a3⟩, a1⟩
  | 1, hq => cases hq; exact ⟨fun n z => ⟨(fun k h => by cases h), k1, b2, x1, b3⟩, b1⟩
  | 2, hq => cases hq; exact ⟨fun n z => ⟨(fun k h => by cases h), k2, d2, x2, d3⟩, d1⟩
  | 3, hq => cases hq; exact ⟨fun n z => ⟨(fun k h => by cases h), k3, e3, x3, e4⟩, k3, x3, e3, e4, e1, e5⟩
  | 4, hq => cases hq; exact ⟨fun n z => ⟨(fun k h => by cases h), k4, f3, x4, f4⟩, k4, x4, f3, f4, f1, f5⟩
  | 5, hq => cases hq; exact ⟨fun n z => ⟨(fun k h => by cases h), k5, g3, x5, g4⟩, g5⟩
  | k + 6, hq => simp [sTys] at hq
theorem sRet_one {ins : Instr} {st : List Value} (h : sRet (some .boolean) ins st = some (some (.int 1))) : ins = .ireturn ∧ st = [.int 1] := by
  unfold sRet at h
  split at h
  · split at h
    · split at h
      · cases h; exact ⟨rfl, rfl⟩
      · cases h
    · cases h
  · split at h <;> cases h
  · split at h <;> cases h
  · split at h <;> cases h
  · cases h
theorem sLawM : ∃ q, sM 258 = some q ∧ mC q = code ∧ mN q = 4 ∧ (mY q).cls = RL ∧ (mY q).name = "law" ∧ mR q = some .boolean := ⟨_, rfl, rfl, rfl, rfl, rfl, rfl⟩
def sLawGo (L : Nat) (xs : Nat → Int32) : Prop := sGo (some (L, xs)) 258 10 0 [some (.ref 1000000), none, none, none] [] [] (fun r h => r = some (.int 1) ∧ h.length ≤ 600000 ∧ sSl h ≤ 7302250)
theorem s_start {p : Program} {l : Launch} {e : Env} {s : State} {m : MethodId} {below : List Frame} {meth : Method} {c : Code} {b L : Nat} {xs : Nat → Int32} {Q : State → Prop} (hx : p.tables.exec = Jvm.exec) (hb : c.code = code) (hml : c.maxLocals = 4) (hown : s.vm.findClass RL = some m.cls) (hts : ∀ w ∈ lw_tbl, w.before #[Value.ref b] s = true) (hX : va_X b L xs s s.heap) (hbl : b < s.heap.size) (hg : sLawGo L xs)
    (hret : ∀ (pc' : Nat) (H' : Heap) (locs' : List Loc) (cells' slots' : Nat) (ls' : Array Slot), decode code pc' = .ok (.ireturn, 1) → (∀ q ∈ locs', s.heap.size ≤ q.base) → cells' ≤ 600000 → slots' ≤ 7302250 → W p l e room_1 s m #[Value.ref b] below meth c H' locs' cells' slots' Q (F0 m pc' ls' [.int 1])) :
    W p l e room_1 s m #[Value.ref b] below meth c s.heap [] 0 0 Q (entryFrame m ([Value.ref b] : List Value).toArray 4) := by
  have hts2 : ∀ w ∈ sTB, w.before #[Value.ref b] s = true := fun w hw => hts w (sTB_lw w hw)
  have hN := sNw_start hts
  obtain ⟨D, hKn⟩ := s_known hts2
  obtain ⟨dA, hAr⟩ := s_arrs hts2 hN
  obtain ⟨q, hq, e1, e2, e3, e4, e5⟩ := sLawM
  obtain ⟨q', nf, n, v, hf, hq', hr, rfl, hf1, hf2⟩ := hg
  cases hq.symm.trans hq'
  rw [lg_entry_eq]
  have h0 : rS (sAd s.heap.size b) [Value.ref 1000000] = [Value.ref b] := by
    show [Value.ref (sAd s.heap.size b 1000000)] = _
    unfold sAd
    rw [if_pos rfl]
  have hi : sIni 4 [Value.ref 1000000] = some [some (.ref 1000000), none, none, none] := rfl
  have hl := s_ini (σ := sAd s.heap.size b) hi
  rw [show [Value.ref 1000000].map (rV (sAd s.heap.size b)) = [Value.ref b] from h0] at hl
  rw [e5] at hr
  refine s_run (base := s.heap.size) (b := b) (D := D) (dA := dA) (q := q) (d := 10) (nf := nf) (X := some (L, xs)) (sl0 := 0) (hf := hf) (v := some (.int 1)) (sOk_law q hq) ⟨hx, by rw [e1]; exact hb, by rw [e2]; exact hml, by rw [e3]; exact hown, hts2, ⟨hKn, hAr⟩, Nat.le_refl _, hN⟩ (fun z => by rw [e4] at z; exact absurd z (by decide)) (fun L' xs' z => by cases z; exact ⟨hX, hbl, by omega⟩) (by decide) (by decide) (fun k z hk hz => (sOk_m k hk z hz).1) (fun k as h r h' z hk hz hc hl => s_met l s.heap.size b D dA 10 nf k as h r h' z hk hz hc hl) (by omega) (by show s.heap.size + hf.length ≤ s.heap.size + 600000; omega) (by show sSl hf ≤ 0 + 7302250; omega) ?_ n 0 _ [] [] s.heap _ [] 0 0 (by rw [e5]; exact hr) ⟨fun k q hk => by simp [rW] at hk, va_S.rf, by decide⟩ (by rw [e2]; exact hl) (by simp) rfl
  intro pc' ins ls' st' H' locs' cells' slots' q1 q2 q3 q4 q5
  rw [e5] at q1
  obtain ⟨rfl, rfl⟩ := sRet_one q1
  rw [e1] at q2
  exact hret pc' H' locs' cells' slots' ls' q2 q3.2.1.2.2 (by omega) (by omega)
