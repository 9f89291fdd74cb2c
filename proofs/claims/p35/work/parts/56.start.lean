/-! ===== the start: what the tables give, and the walk out of a run of the simple machine ===== -/
theorem sInst (ci : Nat) (q : vw_C) (h : vwCl[ci]? = some q) : Jvm.Cond.instantiable q.1 q.2.2 ∈ sTB := by
  match ci, h with
  | 0, h => cases h; exact sW_in (p := 2158) (by decide +kernel)
  | 1, h => cases h; exact sW_in (p := 2132) (by decide +kernel)
  | 2, h => cases h; exact sW_in (p := 2196) (by decide +kernel)
  | 3, h => cases h; exact sW_in (p := 1052) (by decide +kernel)
  | 4, h => cases h; exact sW_in (p := 2171) (by decide +kernel)
  | 5, h => cases h; exact sW_in (p := 2145) (by decide +kernel)
  | 6, h => cases h; exact sW_in (p := 3096) (by decide +kernel)
  | 7, h => cases h; exact sW_in (p := 1031) (by decide +kernel)
  | 8, h => cases h; exact sW_in (p := 1140) (by decide +kernel)
  | 9, h => cases h; exact sW_in (p := 2065) (by decide +kernel)
  | 10, h => cases h; exact sW_in (p := 2184) (by decide +kernel)
  | 11, h => cases h; exact sW_in (p := 1022) (by decide +kernel)
  | 12, h => cases h; exact sW_in (p := 5174) (by decide +kernel)
  | k + 13, h => simp [vwCl] at h
theorem sNw_start {s : State} {args : Array Value} (hts : ∀ w ∈ lw_tbl, w.before args s = true) : sNw s := by
  intro w hw
  simp only [sNwl, List.mem_cons, List.not_mem_nil, or_false] at hw
  rcases hw with rfl | rfl | rfl | rfl | rfl | rfl | rfl | rfl | rfl | rfl | rfl
  · exact va_AO.of (hts _ (List.mem_append_right _ (List.mem_of_getElem? (i := 30) (by decide +kernel))))
  · exact va_AO.of (hts _ (List.mem_append_right _ (List.mem_of_getElem? (i := 32) (by decide +kernel))))
  · exact sAO_moved (Vm.Alike.refl s.vm) (hts _ (List.mem_append_right _ (List.mem_of_getElem? (i := 61) (by decide +kernel))))
  · exact va_Nw.of rfl (hts _ (List.mem_append_right _ (List.mem_of_getElem? (i := 1616) (by decide +kernel))))
  · exact va_Nw.of rfl (hts _ (List.mem_append_right _ (List.mem_of_getElem? (i := 1617) (by decide +kernel))))
  · exact va_Nw.of rfl (hts _ (List.mem_append_right _ (List.mem_of_getElem? (i := 1618) (by decide +kernel))))
  · exact va_Nw.of rfl (hts _ (List.mem_append_right _ (List.mem_of_getElem? (i := 1619) (by decide +kernel))))
  · exact va_Nw.of rfl (hts _ (List.mem_append_right _ (List.mem_of_getElem? (i := 1620) (by decide +kernel))))
  · exact va_Nw.of rfl (hts _ (List.mem_append_right _ (List.mem_of_getElem? (i := 1621) (by decide +kernel))))
  · exact va_Nw.of rfl (hts _ (List.mem_append_right _ (List.mem_of_getElem? (i := 34) (by decide +kernel))))
  · exact va_Nw.of rfl (hts _ (List.mem_append_right _ (List.mem_of_getElem? (i := 145) (by decide +kernel))))
theorem s_known {s : State} {args : Array Value} (hts : ∀ w ∈ sTB, w.before args s = true) : ∃ D : va_G, ∀ (ci : Nat) (q : vw_C), vwCl[ci]? = some q → u_Kn s q.1 q.2.1 q.2.2 (D.1 ci) (D.2 ci) := by
  have h : ∀ ci : Nat, ∃ (cC : ClassId) (iS : Nat → Nat), ∀ q, vwCl[ci]? = some q → u_Kn s q.1 q.2.1 q.2.2 cC iS := by
    intro ci
    cases hq : vwCl[ci]? with
    | none => exact ⟨0, fun _ => 0, fun q h => by cases h⟩
    | some q =>
      obtain ⟨cC, iS, hk⟩ := u_known (ws := sTB) hts (sCF_all ci q hq).1 (hts _ (sInst ci q hq))
      exact ⟨cC, iS, fun q' h => by cases h; exact hk⟩
  exact ⟨(fun ci => Classical.choose (h ci), fun ci => Classical.choose (Classical.choose_spec (h ci))), fun ci q hq => Classical.choose_spec (Classical.choose_spec (h ci)) q hq⟩
theorem s_arrs {s : State} {args : Array Value} (hts : ∀ w ∈ sTB, w.before args s = true) (hn : sNw s) : ∃ dA : Nat → ClassId, ∀ (k : Nat) (q : ClassId × FieldType), (sTys dA)[k]? = some q → ArrOfT s q.1 q.2 ∧ va_RA s q.1 q.2 := by
  obtain ⟨c0, k0, x0, a1, a2, a3⟩ := Cond.arrayClass_spec (hts (.arrayClass .int) (sW_in (p := 1137) (by decide +kernel)))
  obtain ⟨c1, k1, x1, b1, b2, b3⟩ := Cond.arrayClass_spec (hts (.arrayClass .long) (sW_in (p := 1050) (by decide +kernel)))
  obtain ⟨c2, k2, x2, d1, d2, d3⟩ := Cond.arrayClass_spec (hts (.arrayClass .boolean) (sW_in (p := 1138) (by decide +kernel)))
  obtain ⟨x3, c3, k3, e1, e2, e3, e4, e5⟩ := Cond.arrayOver_spec (hn (.arrayOver (.object RX7)) (by simp [sNwl]))
  obtain ⟨x4, c4, k4, f1, f2, f3, f4, f5⟩ := Cond.arrayOver_spec (hn (.arrayOver (.object RX2)) (by simp [sNwl]))
  obtain ⟨x5, c5, k5, g1, g2, g3, g4, g5⟩ := sAO_use (hn (.arrayOver (.array .int)) (by simp [sNwl]))
  refine ⟨fun t => match t with | 0 => c0 | 1 => c1 | 2 => c2 | 3 => c3 | 4 => c4 | _ => c5, fun k q hq => ?_⟩
  match k, hq with
  | 0, hq => cases hq; exact ⟨fun n z => ⟨(fun k h => by cases h), k0, a2, x0, a3⟩, a1⟩
  | 1, hq => cases hq; exact ⟨fun n z => ⟨(fun k h => by cases h), k1, b2, x1, b3⟩, b1⟩
  | 2, hq => cases hq; exact ⟨fun n z => ⟨(fun k h => by cases h), k2, d2, x2, d3⟩, d1⟩
  | 3, hq => cases hq; exact ⟨fun n z => ⟨(fun k h => by cases h), k3, e3, x3, e4⟩, k3, x3, e3, e4, e1, e5⟩
  | 4, hq => cases hq; exact ⟨fun n z => ⟨(fun k h => by cases h), k4, f3, x4, f4⟩, k4, x4, f3, f4, f1, f5⟩
  | 5, hq => cases hq; exact ⟨fun n z => ⟨(fun k h => by cases h), k5, g3, x5, g4⟩, g5⟩
  | k + 6, hq => simp [sTys] at hq
def sTm (i : Nat) : Jvm.Term := .string RX6 (sTxI.getD i 0)
theorem sFd_of {args : Array Value} {s : State} {t : Jvm.Term} {a : Nat} {o n d : String} {v : Value} {A : Nat → Prop} (ht : t.eval args s none [] s = some (.ref a)) (hv : (Jvm.Term.field t o n d).eval args s none [] s = some v) (hA : ∀ a : Nat, a < s.heap.size → ¬ A a) : sFd o n d v a A s s.heap := by
  cases hfo : s.fieldFound? o n d with
  | none =>
    rw [va_fe ht] at hv
    simp [State.fieldOf?, State.fieldNamed?, hfo] at hv
  | some x =>
    obtain ⟨cf, k, fi, f⟩ := x
    obtain ⟨g1, cell, g2, g3, g4, g5, g6⟩ := Term.field_spec hfo ht hv
    exact ⟨cf, k, fi, f, cell, hfo, g1, g2, g3, g4, g5, g6, hA _ (Array.getElem?_eq_some_iff.mp g2).1⟩
theorem s_ref {args : Array Value} {s : State} {t : Jvm.Term} (h : (Jvm.Cond.isRef t).before args s = true) : ∃ v, t.eval args s none [] s = some v ∧ v.isRef = true := by
  cases hv : t.eval args s none [] s with
  | none => simp [Cond.before, Cond.holds, Cond.value, hv] at h
  | some w =>
    simp only [Cond.before, Cond.holds, Cond.value, hv] at h
    exact ⟨w, rfl, by cases w <;> simp_all [Value.isRef]⟩
theorem s_words {s : State} {b : Nat} (hts : ∀ w ∈ lw_tbl, w.before #[Value.ref b] s = true) (hgv : (Jvm.Cond.and given_1 narrow_1).before #[Value.ref b] s = true) : ∃ bb : Nat → Nat, bb 1000000 = b ∧ sOuw s.heap.size bb s s.heap := by
  have hs := flat_of_before _ hgv
  have hA : ∀ a : Nat, a < s.heap.size → ¬ s.heap.size ≤ a := fun a h => Nat.not_le.mpr h
  have hex : ∀ i, i < 7 → (Jvm.Cond.exactly (sTm i) "java/lang/String").before #[Value.ref b] s = true := fun i hi => hs _ ((show ∀ i, i < 7 → Jvm.Cond.exactly (sTm i) "java/lang/String" ∈ flatC (Jvm.Cond.and given_1 narrow_1) by decide +kernel) i hi)
  have hco : ∀ i, i < 7 → (Jvm.Cond.eq (.field (sTm i) "java/lang/String" "coder" "B") (.int 0)).before #[Value.ref b] s = true := fun i hi => hs _ ((show ∀ i, i < 7 → Jvm.Cond.eq (.field (sTm i) "java/lang/String" "coder" "B") (.int 0) ∈ flatC (Jvm.Cond.and given_1 narrow_1) by decide +kernel) i hi)
  have har : ∀ i, i < 7 → (Jvm.Cond.arrayOf (.field (sTm i) "java/lang/String" "value" "[B") .byte).before #[Value.ref b] s = true := fun i hi => hs _ ((show ∀ i, i < 7 → Jvm.Cond.arrayOf (.field (sTm i) "java/lang/String" "value" "[B") .byte ∈ flatC (Jvm.Cond.and given_1 narrow_1) by decide +kernel) i hi)
  have hle : ∀ i, i < 7 → (Jvm.Cond.eq (.length (.field (sTm i) "java/lang/String" "value" "[B")) (.int (Int32.ofNat (sTxL.getD i 0)))).before #[Value.ref b] s = true := fun i hi => hs _ ((show ∀ i, i < 7 → Jvm.Cond.eq (.length (.field (sTm i) "java/lang/String" "value" "[B")) (.int (Int32.ofNat (sTxL.getD i 0))) ∈ flatC (Jvm.Cond.and given_1 narrow_1) by decide +kernel) i hi)
  have hel : ∀ i, i < 7 → ∀ j, j < sTxL.getD i 0 → (Jvm.Cond.eq (.elem (.field (sTm i) "java/lang/String" "value" "[B") (.int (Int32.ofNat j))) (.int (sTxC i j))).before #[Value.ref b] s = true := fun i hi j hj => hs _ ((show ∀ i, i < 7 → ∀ j, j < sTxL.getD i 0 → Jvm.Cond.eq (.elem (.field (sTm i) "java/lang/String" "value" "[B") (.int (Int32.ofNat j))) (.int (sTxC i j)) ∈ flatC (Jvm.Cond.and given_1 narrow_1) by decide +kernel) i hi j hj)
  have hL : ∀ i, i < 7 → sTxL.getD i 0 < 2 ^ 31 := by decide
  have h0 : ∀ i : Nat, ∃ q : Nat × Nat, i < 7 → (sTm i).eval #[Value.ref b] s none [] s = some (.ref q.1) ∧ sEx "java/lang/String" q.1 (fun q => s.heap.size ≤ q) s s.heap ∧ sFd "java/lang/String" "coder" "B" (.int 0) q.1 (fun q => s.heap.size ≤ q) s s.heap ∧ sFd "java/lang/String" "value" "[B" (.ref q.2) q.1 (fun q => s.heap.size ≤ q) s s.heap ∧ va_T .byte q.2 (sTxL.getD i 0) (fun j => .int (sTxC i j)) (fun q => s.heap.size ≤ q) s s.heap := by
    intro i
    by_cases hi : i < 7
    · obtain ⟨a, c, cA, kA, q1, q2, q3, q4, q5, q6, q7⟩ := Cond.exactly_spec (args := #[Value.ref b]) (first := s) (o := none) (s := s) (idx := []) (t := sTm i) (cls := "java/lang/String") (hex i hi)
      obtain ⟨t, ht, hT⟩ := va_Tof (f := fun j => .int (sTxC i j)) (A := fun q => s.heap.size ≤ q) (hL i hi) (har i hi) (va_eqt (hle i hi)) (fun j hj => va_eqt (hel i hi j hj)) hA
      exact ⟨(a, t), fun _ => ⟨q1, ⟨c, kA, cA, q2, q3, q4, q5, q6, q7, hA a (Array.getElem?_eq_some_iff.mp q3).1⟩, sFd_of q1 (va_eqt (hco i hi)) hA, sFd_of q1 ht hA, hT⟩⟩
    · exact ⟨(0, 0), fun h => absurd h hi⟩
  obtain ⟨ad, had⟩ := Classical.axiomOfChoice h0
  have hsr : ∀ (i k : Nat) (tx : String), sTxI[i]? = some k → sTxT[i]? = some tx → (Jvm.Cond.stringRef RX6 k tx).before #[Value.ref b] s = true := by
    intro i k tx e1 e2
    match i, e1, e2 with
    | 0, e1, e2 => cases e1; cases e2; exact hts _ (List.mem_append_right _ (List.mem_of_getElem? (i := 612) (by decide +kernel)))
    | 1, e1, e2 => cases e1; cases e2; exact hts _ (List.mem_append_right _ (List.mem_of_getElem? (i := 613) (by decide +kernel)))
    | 2, e1, e2 => cases e1; cases e2; exact hts _ (List.mem_append_right _ (List.mem_of_getElem? (i := 614) (by decide +kernel)))
    | 3, e1, e2 => cases e1; cases e2; exact hts _ (List.mem_append_right _ (List.mem_of_getElem? (i := 615) (by decide +kernel)))
    | 4, e1, e2 => cases e1; cases e2; exact hts _ (List.mem_append_right _ (List.mem_of_getElem? (i := 616) (by decide +kernel)))
    | 5, e1, e2 => cases e1; cases e2; exact hts _ (List.mem_append_right _ (List.mem_of_getElem? (i := 617) (by decide +kernel)))
    | 6, e1, e2 => cases e1; cases e2; exact hts _ (List.mem_append_right _ (List.mem_of_getElem? (i := 618) (by decide +kernel)))
    | i + 7, e1, e2 => simp [sTxI] at e1
  have hfm := s_ref (hs (.isRef (.static "jdk/internal/util/Preconditions" "SIOOBE_FORMATTER" "Ljava/util/function/BiFunction;")) (by decide +kernel))
  obtain ⟨fmt, hf1, hf2⟩ := hfm
  refine ⟨fun n => if n = 1000000 then b else (ad (n - 2000000)).1, if_pos rfl, fun i k tx e1 e2 => ?_, ⟨fun i => (ad i).2, fun i hi => ?_⟩, ?_, fmt, hf2, ?_⟩
  · have hi : i < 7 := (List.getElem?_eq_some_iff.mp e1).1
    have e : (if 2000000 + i = 1000000 then b else (ad (2000000 + i - 2000000)).1) = (ad i).1 := by rw [if_neg (by omega), Nat.add_sub_cancel_left]
    dsimp only
    rw [e]
    refine vk_R.of (hsr i k tx e1 e2) ?_
    have h := (had i hi).1
    unfold sTm at h
    rw [show sTxI.getD i 0 = k by rw [List.getD_eq_getElem?_getD, e1]; rfl] at h
    exact h
  · have e : (if 2000000 + i = 1000000 then b else (ad (2000000 + i - 2000000)).1) = (ad i).1 := by rw [if_neg (by omega), Nat.add_sub_cancel_left]
    dsimp only
    rw [e]
    exact (had i hi).2
  · exact va_Zof (hts _ (List.mem_append_right _ (List.mem_of_getElem? (i := 632) (by decide +kernel)))) (hts _ (List.mem_append_right _ (List.mem_of_getElem? (i := 17) (by decide +kernel)))) (va_eqi (hs _ (by decide +kernel))) hA
  · exact va_Zof (hts _ (List.mem_append_right _ (List.mem_of_getElem? (i := 652) (by decide +kernel)))) (hts _ (List.mem_append_right _ (List.mem_of_getElem? (i := 19) (by decide +kernel)))) hf1 hA
theorem sRet_one {ins : Instr} {st : List Value} (h : sRet (some .boolean) ins st = some (some (.int 1))) : ins = .ireturn ∧ st = [.int 1] := by
  unfold sRet at h
  split at h
  · split at h
    · split at h
      · cases h; exact ⟨rfl, rfl⟩
      · cases h
    · cases h
  · split at h <;> cases h
  · split at h <;> cases h
  · split at h <;> cases h
  · cases h
theorem sLawM : ∃ q, sM 258 = some q ∧ mC q = code ∧ mN q = 4 ∧ (mY q).cls = RL ∧ (mY q).name = "law" ∧ mR q = some .boolean := ⟨_, rfl, rfl, rfl, rfl, rfl, rfl⟩
def sLawGo (L : Nat) (xs : Nat → Int32) : Prop := sGo (some (L, xs)) 258 10 0 [some (.ref 1000000), none, none, none] [] [] (fun r h => r = some (.int 1) ∧ h.length ≤ 600000 ∧ sSl h ≤ 7302250)
theorem s_start {p : Program} {l : Launch} {e : Env} {s : State} {m : MethodId} {below : List Frame} {meth : Method} {c : Code} {b L : Nat} {xs : Nat → Int32} {Q : State → Prop} (hx : p.tables.exec = Jvm.exec) (hb : c.code = code) (hml : c.maxLocals = 4) (hown : s.vm.findClass RL = some m.cls) (hts : ∀ w ∈ lw_tbl, w.before #[Value.ref b] s = true) (hX : va_X b L xs s s.heap) (hbl : b < s.heap.size) (hgv : (Jvm.Cond.and given_1 narrow_1).before #[Value.ref b] s = true) (hg : sLawGo L xs)
    (hret : ∀ (pc' : Nat) (H' : Heap) (locs' : List Loc) (cells' slots' : Nat) (ls' : Array Slot), decode code pc' = .ok (.ireturn, 1) → (∀ q ∈ locs', s.heap.size ≤ q.base) → cells' ≤ 600000 → slots' ≤ 7302250 → W p l e room_1 s m #[Value.ref b] below meth c H' locs' cells' slots' Q (F0 m pc' ls' [.int 1])) :
    W p l e room_1 s m #[Value.ref b] below meth c s.heap [] 0 0 Q (entryFrame m ([Value.ref b] : List Value).toArray 4) := by
  have hts2 : ∀ w ∈ sTB, w.before #[Value.ref b] s = true := fun w hw => hts w (sTB_lw w hw)
  have hN := sNw_start hts
  obtain ⟨bb, hbb, hWd⟩ := s_words hts hgv
  obtain ⟨D, hKn⟩ := s_known hts2
  obtain ⟨dA, hAr⟩ := s_arrs hts2 hN
  obtain ⟨q, hq, e1, e2, e3, e4, e5⟩ := sLawM
  obtain ⟨q', nf, n, v, hf, hq', hr, rfl, hf1, hf2⟩ := hg
  cases hq.symm.trans hq'
  rw [lg_entry_eq]
  have h0 : rS (sAd s.heap.size bb) [Value.ref 1000000] = [Value.ref b] := by
    show [Value.ref (sAd s.heap.size bb 1000000)] = _
    unfold sAd
    rw [if_pos (Nat.le_refl _), hbb]
  have hi : sIni 4 [Value.ref 1000000] = some [some (.ref 1000000), none, none, none] := rfl
  have hl := s_ini (σ := sAd s.heap.size bb) hi
  rw [show [Value.ref 1000000].map (rV (sAd s.heap.size bb)) = [Value.ref b] from h0] at hl
  rw [e5] at hr
  refine s_run (base := s.heap.size) (b := bb) (D := D) (dA := dA) (q := q) (d := 10) (nf := nf) (X := some (L, xs)) (sl0 := 0) (hf := hf) (v := some (.int 1)) (sOk_law q hq) ⟨hx, by rw [e1]; exact hb, by rw [e2]; exact hml, by rw [e3]; exact hown, hts2, ⟨hKn, hAr⟩, Nat.le_refl _, hN, hWd⟩ (fun z => by rw [e4] at z; exact absurd z (by decide)) (fun L' xs' z => by cases z; rw [hbb]; exact ⟨hX, hbl, by omega⟩) (by decide) (by decide) (fun k z hk hz => (sOk_m k hk z hz).1) (fun k as h r h' z hk hz hc hl => s_met l s.heap.size bb D dA 10 nf k as h r h' z hk hz hc hl) (by omega) (by show s.heap.size + hf.length ≤ s.heap.size + 600000; omega) (by show sSl hf ≤ 0 + 7302250; omega) ?_ n 0 _ [] [] s.heap _ [] 0 0 (by rw [e5]; exact hr) ⟨fun k q hk => by simp [rW] at hk, va_S.rf, by decide⟩ (by rw [e2]; exact hl) (by simp) rfl
  intro pc' ins ls' st' H' locs' cells' slots' q1 q2 q3 q4 q5
  rw [e5] at q1
  obtain ⟨rfl, rfl⟩ := sRet_one q1
  rw [e1] at q2
  exact hret pc' H' locs' cells' slots' ls' q2 q3.2.1.2.2 (by omega) (by omega)
