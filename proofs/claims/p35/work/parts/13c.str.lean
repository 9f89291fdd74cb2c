/-! ===== length and charAt of the words ===== -/
def sQl : sMt := (Jvm.Lib.Str.length.name, Jvm.Lib.String.length.code, 1, some .int, 1, 99, 0, [], [])
def sQc : sMt := (Jvm.Lib.Str.charAt.name, Jvm.Lib.Str.charAt.code, 2, some .char, 1, 99, 1, [], [])
theorem s_StaticIs {C n d : String} {v : Value} {A : Nat → Prop} {U : State} (h : va_Z C n d v A U U.heap) : Jvm.Lib.Cold.StaticIs U C n d v := by
  obtain ⟨cf, kf, fi, f, a, cell, h1, h2, h3, h4, h5, h6, h7, -⟩ := h
  exact ⟨cf, fi, kf, f, a, cell, h1, h2, h3, h4, h5, (fun z => by rw [z] at h6; cases h6), h7⟩
theorem s_Sig {args : Array Value} {s : State} {y : MethodName} {cc : ByteArray} {n : Nat} {ret : Option FieldType} {mk : MethodId} (hn : s.methodNamed? y = some mk) (h : (Jvm.Cond.code y cc n ret).before args s = true) : Jvm.Lib.Cold.Sig s y := by
  obtain ⟨meth, c, h1, -, -, -, -, -, -, h8⟩ := Cond.code_spec hn h
  exact ⟨mk, meth, hn, h1, h8⟩
theorem s_declares {args : Array Value} {s : State} {y : MethodName} {cc : ByteArray} {n : Nat} {ret : Option FieldType} (h1 : (Jvm.Cond.instanceMethod y).before args s = true) (h2 : (Jvm.Cond.code y cc n ret).before args s = true) : (Jvm.Cond.declares y).before args s = true ∧ Jvm.Lib.Cold.Sig s y := by
  obtain ⟨mk, meth, a1, a2, a3, -⟩ := Cond.instanceMethod_spec h1
  obtain ⟨meth', c, b1, -, -, -, -, -, -, b8⟩ := Cond.code_spec a1 h2
  cases a2.symm.trans b1
  refine ⟨?_, mk, meth, a1, a2, b8⟩
  simp [Cond.before, Cond.holds, Cond.value, a1, a2, a3, b8]
theorem s_static {args : Array Value} {s : State} {y : MethodName} {cc : ByteArray} {n : Nat} {ret : Option FieldType} (h1 : (Jvm.Cond.static y).before args s = true) (h2 : (Jvm.Cond.code y cc n ret).before args s = true) : Jvm.Lib.Cold.Sig s y := by
  cases hn : s.methodNamed? y with
  | none => simp [Cond.before, Cond.holds, Cond.value, hn] at h1
  | some mk => exact s_Sig hn h2
theorem s_room0 {s : State} {pl : Platform} {r r' : Room} (h : s.hasRoom pl r' = true) (h1 : r.frames ≤ r'.frames) (h2 : r.locals ≤ r'.locals) (h3 : r.cells ≤ r'.cells) (h4 : r.slots ≤ r'.slots) : s.hasRoom pl r = true := by
  simp only [State.hasRoom, Bool.and_eq_true, decide_eq_true_eq] at h ⊢
  obtain ⟨⟨⟨⟨a0, a1, a2, a3, a4, a6⟩, a7⟩, a8⟩, a9⟩ := h
  exact ⟨⟨⟨⟨by omega, by omega, by omega, by omega, by omega, a6⟩, by omega⟩, by omega⟩, a9⟩
theorem s_new0 {s u : State} (h : s.sameBut u []) : u.heap = s.heap ∧ s.sameButNew u [] 0 0 := by
  have h0 := State.sameBut_nil.mp h
  have e1 : u.heap = s.heap := (congrArg State.heap h0).trans rfl
  have e2 : u.slotsUsed = s.slotsUsed := (congrArg State.slotsUsed h0).trans rfl
  have e3 : (u.heap.toList.drop s.heap.size).map (fun c => c.slots.size) = [] := by
    rw [e1, List.drop_of_length_le (by simp)]; rfl
  refine ⟨e1, ?_, by rw [e1]; exact Nat.le_refl _, by rw [e1]; exact Nat.le_refl _, ?_, ?_, fun a c hc => ⟨c, by rw [e1]; exact hc, rfl, rfl, fun _ _ => rfl⟩⟩
  · rw [← h0]
  · rw [e2]
    show s.slotsUsed = s.slotsUsed + ((u.heap.toList.drop s.heap.size).map (fun c => c.slots.size)).sum
    rw [e3]; rfl
  · show ((u.heap.toList.drop s.heap.size).map (fun c => c.slots.size)).sum ≤ 0
    rw [e3]; exact Nat.le_refl _
/-- what such a pure call leaves -/
theorem s_pure_end {base : Nat} {b : Nat → Nat} {D : va_G} {dA : Nat → ClassId} {h : sHp} {a : Array Value} {s t : State} {o : Outcome} {v : Value} (hP : va_P D vwCl (rW (sAd base b) dA h) s.heap) (hv : rV (sAd base b) v = v) (q : Jvm.Free.PureEnd s o t) (ho : o = .returned (some v)) : sQ base b D dA (some v) h a s o t ∧ ∃ L, Jvm.Free.FrameEnd s o t L (h.length - h.length) (sSl h - sSl h) ∧ ∀ q ∈ L, base ≤ q.base := by
  obtain ⟨q1, q2, q3⟩ := q
  obtain ⟨e1, e2⟩ := s_new0 q3
  have e1 : t.heap = s.heap := e1
  refine ⟨⟨⟨by rw [ho]; show _ = Outcome.returned (some (rV (sAd base b) v)); rw [hv], by rw [e1]; exact hP⟩, by rw [e1]; exact Nat.le_refl _, fun q _ _ => by rw [e1]⟩, [], ⟨q1, q2, by rw [Nat.sub_self, Nat.sub_self]; exact e2⟩, fun q hq => by cases hq⟩
theorem sAd_out {base i : Nat} {b : Nat → Nat} : rV (sAd base b) (.ref (2000000 + i)) = .ref (b (2000000 + i)) := by
  show Value.ref (sAd base b (2000000 + i)) = _
  unfold sAd
  rw [if_pos (by omega)]
section STR
variable {l : Launch} {base : Nat} {b : Nat → Nat} {D : va_G} {dA : Nat → ClassId}
theorem s_metLen {d i : Nat} (hd : 1 ≤ d) (hi : i < 7) (h : sHp) : sMet l base b D dA d sQl [.ref (2000000 + i)] h (some (.int (Int32.ofNat (sTxL.getD i 0)))) h := by
  intro p e ha hc hk s m args below hf happ hP _
  obtain ⟨hargs, hsz, hPw, hK, hN, hou⟩ := hP
  have hargs : args = #[.ref (b (2000000 + i))] := by
    rw [hargs]
    show [rV (sAd base b) (.ref (2000000 + i))].toArray = _
    rw [sAd_out]
  subst hargs
  obtain ⟨h1, ⟨adV, h2⟩, h3, fmt, h5, h4⟩ := hou
  obtain ⟨x1, x2, x3, cell, t1, t2, t3, t4, t5, t6, t7⟩ := h2 i hi
  obtain ⟨c1, c2, c3, c4, c5, c6, c7, c8⟩ := (Spec.appliesLoose_iff hf).mp happ
  have hts : ∀ w ∈ sWs sQl, w.before #[.ref (b (2000000 + i))] s = true := atoms_spec (ws := sWs sQl) c8
  have w : ∀ (p : Nat) {w : Jvm.Cond}, sW p = some w → w.before #[.ref (b (2000000 + i))] s = true := fun p w hw => hts w (List.mem_cons_of_mem _ (sW_in hw))
  have ht : (Jvm.Term.arg 0).eval #[.ref (b (2000000 + i))] s none [] s = some (.ref (b (2000000 + i))) := rfl
  have hcode : (Jvm.Cond.code Jvm.Lib.String.coder.name Jvm.Lib.String.coder.code 1 (some .byte)).before #[.ref (b (2000000 + i))] s = true := w 3141 (by decide +kernel)
  have hins : (Jvm.Cond.instanceMethod Jvm.Lib.String.coder.name).before #[.ref (b (2000000 + i))] s = true := w 3139 (by decide +kernel)
  obtain ⟨hdec, hsig⟩ := s_declares hins hcode
  have hpre : Jvm.Lib.Cold.length.spec.pre.before #[.ref (b (2000000 + i))] s = true := by
    simp only [Jvm.Lib.Cold.length.spec, Cond.before_and, Bool.and_eq_true]
    exact ⟨hts _ List.mem_cons_self, rfl, sEx_ex ht x1, w 7157 (by decide +kernel), w 3138 (by decide +kernel), hdec, w 3140 (by decide +kernel), hins, w 1017 (by decide +kernel)⟩
  obtain ⟨n, o, r1, r2, r3, hQ⟩ := Jvm.Lib.Cold.length.met l (b (2000000 + i)) (adV i) 1 cell p e ha hc hk s m #[.ref (b (2000000 + i))] below hf
    ((Spec.appliesLoose_iff hf).mpr ⟨c1, c2, c3, c4, c5, c6, s_room0 c7 (by show 1 ≤ d; exact hd) (by show 24 ≤ 39 * d; omega) (Nat.zero_le _) (Nat.zero_le _), hpre⟩)
    ⟨rfl, sFd_ev ht x3, t1, t2, by
      simp only [Jvm.Lib.Cold.coder.spec, Cond.before_and, Bool.and_eq_true]
      exact ⟨hcode, rfl, w 3142 (by decide +kernel), w 7158 (by decide +kernel)⟩, rfl, s_StaticIs h3, by decide, sFd_ev ht x2⟩ trivial
  refine ⟨n, o, r1, r2, r3, ?_⟩
  obtain ⟨q1, q2⟩ := hQ
  rw [t5] at q2
  exact s_pure_end hPw rfl q1 q2
theorem sTxC_ch : ∀ i : Nat, i < 7 → ∀ j : Nat, j < 5 → ((sTxC i j &&& 255).toUInt32.toUInt16.toUInt32.toInt32) = sTxC i j := by decide +kernel
theorem sTxL_5 : ∀ i : Nat, i < 7 → sTxL.getD i 0 ≤ 5 := by decide +kernel
theorem s_metCh {d i : Nat} (hd : 3 ≤ d) (hi : i < 7) {x : Int32} (hx : ¬ (x < 0 ∨ sTxL.getD i 0 ≤ x.toNatClampNeg)) (h : sHp) : sMet l base b D dA d sQc [.ref (2000000 + i), .int x] h (some (.int (sTxC i x.toNatClampNeg))) h := by
  intro p e ha hc hk s m args below hf happ hP _
  obtain ⟨hargs, hsz, hPw, hK, hN, hou⟩ := hP
  have hargs : args = #[.ref (b (2000000 + i)), .int x] := by
    rw [hargs]
    show [rV (sAd base b) (.ref (2000000 + i)), .int x].toArray = _
    rw [sAd_out]
  subst hargs
  obtain ⟨h1, ⟨adV, h2⟩, h3, fmt, h5, h4⟩ := hou
  obtain ⟨x1, x2, x3, cell, t1, t2, t3, t4, t5, t6, t7⟩ := h2 i hi
  obtain ⟨c1, c2, c3, c4, c5, c6, c7, c8⟩ := (Spec.appliesLoose_iff hf).mp happ
  have hts : ∀ w ∈ sWs sQc, w.before #[.ref (b (2000000 + i)), .int x] s = true := atoms_spec (ws := sWs sQc) c8
  have w : ∀ (p : Nat) (a' : Array Value) {w : Jvm.Cond}, sW p = some w → w.before a' s = true := fun p a' w hw => pay_in (big := sTB) (ws := sTB) (args := #[.ref (b (2000000 + i)), .int x]) (fun w h => hts w (List.mem_cons_of_mem _ h)) (sTB_in (fun w h => h)) w (sW_in hw) a' s (State.WarmedH.refl s)
  have ht : ∀ vs : List Value, (Jvm.Term.arg 0).eval (Value.ref (b (2000000 + i)) :: vs).toArray s none [] s = some (.ref (b (2000000 + i))) := fun vs => rfl
  have lt5 := sTxL_5 i hi
  have xlt : x.toNatClampNeg < sTxL.getD i 0 := by omega
  have hIL : (Jvm.Cond.instanceMethod Jvm.Lib.Str.isLatin1.name).before #[] s = true := w 3152 _ (by decide +kernel)
  have hILc : (Jvm.Cond.code Jvm.Lib.Str.isLatin1.name Jvm.Lib.String.isLatin1.code 1 (some .boolean)).before #[] s = true := w 3154 _ (by decide +kernel)
  obtain ⟨hdec0, hsig0⟩ := s_declares hIL hILc
  have hdec : (Jvm.Cond.declares Jvm.Lib.Str.isLatin1.name).before #[.ref (b (2000000 + i)), .int x] s = true := by
    simpa only [Cond.before, Cond.holds, Cond.value] using hdec0
  have hpre : Jvm.Lib.Cold.charAt.spec.pre.before #[.ref (b (2000000 + i)), .int x] s = true := by
    simp only [Jvm.Lib.Cold.charAt.spec, Cond.before_and, Bool.and_eq_true]
    exact ⟨hts _ List.mem_cons_self, rfl, sEx_ex (ht [.int x]) x1, w 3151 _ (by decide +kernel), hdec, w 3153 _ (by decide +kernel), w 3152 _ (by decide +kernel), w 7157 _ (by decide +kernel), w 3155 _ (by decide +kernel), w 3156 _ (by decide +kernel), w 1018 _ (by decide +kernel), w 1017 _ (by decide +kernel)⟩
  have hsz2 : cell.slots.size.toInt32 = Int32.ofNat (sTxL.getD i 0) := t5
  have hPC : Jvm.Lib.Preconditions.checkIndex.spec.pre.before #[.int x, .int cell.slots.size.toInt32, fmt] s = true := by
    rw [hsz2]
    have e0 : (0 : Int32).toInt = 0 := rfl
    have g1 : ¬ x.toInt < 0 := fun z => hx (Or.inl (Int32.lt_iff_toInt_lt.mpr z))
    have g2 : (x.toNatClampNeg : Int) = x.toInt := by
      show ((x.toInt.toNat : Nat) : Int) = x.toInt
      omega
    have k1 : (0 : Int32) ≤ x := Int32.le_iff_toInt_le.mpr (by omega)
    have k2 : x < Int32.ofNat (sTxL.getD i 0) := Int32.lt_iff_toInt_lt.mpr (by rw [Int32.toInt_ofNat_of_lt (by omega)]; omega)
    simp only [Jvm.Lib.Preconditions.checkIndex.spec, Cond.before_and, Bool.and_eq_true]
    refine ⟨w 3164 _ (by decide +kernel), rfl, ?_, ?_, ?_, ?_, ?_⟩
    · simp [Cond.before, Cond.holds, Cond.value, Term.eval]
    · simp [Cond.before, Cond.holds, Cond.value, Term.eval]
    · simp [Cond.before, Cond.holds, Cond.value, Term.eval]
      cases fmt <;> first | rfl | cases h5
    · simp [Cond.before, Cond.holds, Cond.value, Term.eval, k1]
    · generalize Int32.ofNat (sTxL.getD i 0) = n at k2 ⊢
      simp [Cond.before, Cond.holds, Cond.value, Term.eval, k2]
  obtain ⟨n, o, r1, r2, r3, hQ⟩ := Jvm.Lib.Cold.charAt.met l (b (2000000 + i)) (adV i) x (sTxC i x.toNatClampNeg) 1 fmt cell p e ha hc hk s m #[.ref (b (2000000 + i)), .int x] below hf
    ((Spec.appliesLoose_iff hf).mpr ⟨c1, c2, c3, c4, c5, c6, s_room0 c7 (by show 3 ≤ d; exact hd) (by show 72 ≤ 39 * d; omega) (Nat.zero_le _) (Nat.zero_le _), hpre⟩)
    ⟨rfl, sFd_ev (ht [.int x]) x3, s_static (args := #[]) (w 3156 _ (by decide +kernel)) (w 3157 _ (by decide +kernel : sW 3157 = some (.code Jvm.Lib.SL1.charAt.name Jvm.Lib.SL1.charAt.code 2 (some .char)))), by
      simp only [Jvm.Lib.Cold.isLatin1.spec, Cond.before_and, Bool.and_eq_true]
      exact ⟨w 3154 _ (by decide +kernel), rfl, w 3142 _ (by decide +kernel), w 7158 _ (by decide +kernel)⟩, ⟨rfl, s_StaticIs h3, by decide, sFd_ev (ht []) x2⟩, by
      simp only [Jvm.Lib.Cold.latin1.spec, Cond.before_and, Bool.and_eq_true]
      exact ⟨w 3157 _ (by decide +kernel), rfl, w 3158 _ (by decide +kernel), w 3159 _ (by decide +kernel), w 1017 _ (by decide +kernel)⟩, ⟨rfl, t1, t2, t3, (fun z => hx (z.imp id (fun z => by omega))), t6 _ xlt, s_static (args := #[]) (w 3159 _ (by decide +kernel)) (w 3160 _ (by decide +kernel : sW 3160 = some (.code Jvm.Lib.Str.checkIndex.name Jvm.Lib.Str.checkIndex.code 2 none))), by
      simp only [Jvm.Lib.Cold.checkIndex.spec, Cond.before_and, Bool.and_eq_true]
      exact ⟨w 3160 _ (by decide +kernel), rfl, w 3161 _ (by decide +kernel), w 3162 _ (by decide +kernel), w 3163 _ (by decide +kernel), w 1019 _ (by decide +kernel)⟩, ⟨rfl, s_StaticIs h4, s_static (args := #[]) (w 3163 _ (by decide +kernel)) (w 3164 _ (by decide +kernel : sW 3164 = some (.code Jvm.Lib.Preconditions.checkIndex.name Jvm.Lib.Preconditions.checkIndex.code 3 (some .int)))), hPC⟩⟩⟩ trivial
  refine ⟨n, o, r1, r2, r3, ?_⟩
  obtain ⟨q1, q2⟩ := hQ
  rw [sTxC_ch i hi _ (by omega)] at q2
  exact s_pure_end hPw rfl q1 q2
end STR
