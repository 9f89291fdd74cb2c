/-! ===== cells ===== -/
def sTys (dA : Nat → ClassId) : List (ClassId × FieldType) := [(dA 0, .int), (dA 1, .long), (dA 2, .boolean), (dA 3, .object RX7), (dA 4, .object RX2), (dA 5, .array .int)]
/-- words that are not carried by the tables alone -/
def sNwl : List Jvm.Cond := [.arrayOver (.object RX7), .arrayOver (.object RX2), .arrayOver (.array .int), .castable RX9 RX2, .castable RX1 RX2, .castable RX5 RX2, .castable RX0 RX2, .castable RX4 RX2, .castable RX10 RX2, .methodLinkNest RX11 21 yX7_init RX11, .methodLinkNest RX11 41 yX8_init RX11]
/-- an object's field; an object of just this kind -/
def sFd (o n d : String) (v : Value) (a : Nat) (A : Nat → Prop) (U : State) (H : Heap) : Prop := ∃ (cf : ClassId) (k : Class) (i : Nat) (f : Field) (cell : Cell), U.fieldFound? o n d = some (cf, k, i, f) ∧ f.isStatic = false ∧ H[a]? = some cell ∧ cell.vm ≠ .unknown ∧ cell.vm.isStatics = false ∧ U.vm.assignable cell.cls cf = true ∧ cell.slots[f.slot]? = some v ∧ ¬ A a
theorem sFd_moved {o n d : String} {v : Value} {a : Nat} {A : Nat → Prop} {u U : State} {H : Heap} (hvm : u.vm.Alike U.vm) (h : sFd o n d v a A u H) : sFd o n d v a A U H := by
  obtain ⟨cf, k, i, f, cell, h1, h2, h3, h4, h5, h6, h7⟩ := h
  obtain ⟨k', hk', -⟩ := State.fieldFound?_setVm hvm h1
  exact ⟨cf, k', i, f, cell, hk', h2, h3, h4, h5, by rw [hvm.assignable]; exact h6, h7⟩
theorem sFd_kept {o n d : String} {v : Value} {a : Nat} {A : Nat → Prop} {U : State} {H H1 : Heap} (h : sFd o n d v a A U H) (hq : ∀ a : Nat, a < H.size → ¬ A a → H1[a]? = H[a]?) : sFd o n d v a A U H1 := by
  obtain ⟨cf, k, i, f, cell, h1, h2, h3, h4, h5, h6, h7, h8⟩ := h
  exact ⟨cf, k, i, f, cell, h1, h2, by rw [hq a (Array.getElem?_eq_some_iff.mp h3).1 h8]; exact h3, h4, h5, h6, h7, h8⟩
theorem sFd_ev {o n d : String} {v : Value} {a : Nat} {A : Nat → Prop} {s : State} {args : Array Value} {oc : Option Outcome} {idx : List Nat} {t : Term} (ht : t.eval args s oc idx s = some (.ref a)) (h : sFd o n d v a A s s.heap) : (Term.field t o n d).eval args s oc idx s = some v := by
  obtain ⟨cf, k, i, f, cell, h1, h2, h3, h4, h5, h6, h7, -⟩ := h
  rw [va_fe ht]
  simp [State.fieldOf?, State.fieldNamed?, h1, h2, h3, h4, h5, h6, h7]
def sEx (C : String) (a : Nat) (A : Nat → Prop) (U : State) (H : Heap) : Prop := ∃ (c : ClassId) (k : Class) (cell : Cell), U.vm.findClass C = some c ∧ H[a]? = some cell ∧ U.vm.classes[c]? = some k ∧ cell.vm.isStatics = false ∧ cell.cls = c ∧ (k.kind = .ordinary → cell.slots.size = k.instanceTypes.size) ∧ ¬ A a
theorem sEx_moved {C : String} {a : Nat} {A : Nat → Prop} {u U : State} {H : Heap} (hvm : u.vm.Alike U.vm) (h : sEx C a A u H) : sEx C a A U H := by
  obtain ⟨c, k, cell, h1, h2, h3, h4, h5, h6, h7⟩ := h
  obtain ⟨k', hk', he⟩ := hvm.2.2 _ _ h3
  exact ⟨c, k', cell, by rw [hvm.findClass]; exact h1, h2, hk', h4, h5, by rw [he]; exact h6, h7⟩
theorem sEx_kept {C : String} {a : Nat} {A : Nat → Prop} {U : State} {H H1 : Heap} (h : sEx C a A U H) (hq : ∀ a : Nat, a < H.size → ¬ A a → H1[a]? = H[a]?) : sEx C a A U H1 := by
  obtain ⟨c, k, cell, h1, h2, h3, h4, h5, h6, h7⟩ := h
  exact ⟨c, k, cell, h1, by rw [hq a (Array.getElem?_eq_some_iff.mp h2).1 h7]; exact h2, h3, h4, h5, h6, h7⟩
theorem sEx_ex {C : String} {a : Nat} {A : Nat → Prop} {s : State} {args : Array Value} {t : Term} (ht : t.eval args s none [] s = some (.ref a)) (h : sEx C a A s s.heap) : (Jvm.Cond.exactly t C).before args s = true := by
  obtain ⟨c, k, cell, h1, h2, h3, h4, h5, h6, h7⟩ := h
  simp only [Cond.before, Cond.holds, Cond.value, ht, h1, h2, h3, h4, h5]
  cases hk : k.kind <;> simp_all
/-- what the text reader's words are, and where -/
def sOuw (base : Nat) (b : Nat → Nat) (U : State) (H : Heap) : Prop := (∀ (i k : Nat) (tx : String), sTxI[i]? = some k → sTxT[i]? = some tx → vk_R RX6 k tx (b (2000000 + i)) U) ∧ (∃ adV : Nat → Nat, ∀ i : Nat, i < 7 → sEx "java/lang/String" (b (2000000 + i)) (fun q => base ≤ q) U H ∧ sFd "java/lang/String" "coder" "B" (.int 0) (b (2000000 + i)) (fun q => base ≤ q) U H ∧ sFd "java/lang/String" "value" "[B" (.ref (adV i)) (b (2000000 + i)) (fun q => base ≤ q) U H ∧ va_T .byte (adV i) (sTxL.getD i 0) (fun j => .int (sTxC i j)) (fun q => base ≤ q) U H) ∧ va_Z "java/lang/String" "COMPACT_STRINGS" "Z" (.int 1) (fun q => base ≤ q) U H ∧ ∃ fmt : Value, fmt.isRef = true ∧ va_Z "jdk/internal/util/Preconditions" "SIOOBE_FORMATTER" "Ljava/util/function/BiFunction;" fmt (fun q => base ≤ q) U H
theorem sOuw_kept {base : Nat} {b : Nat → Nat} {U : State} {H H1 : Heap} (hq : ∀ a : Nat, a < H.size → ¬ base ≤ a → H1[a]? = H[a]?) (h : sOuw base b U H) : sOuw base b U H1 := by
  obtain ⟨h1, ⟨adV, h2⟩, h3, fmt, h5, h4⟩ := h
  exact ⟨h1, ⟨adV, fun i hi => ⟨sEx_kept (h2 i hi).1 hq, sFd_kept (h2 i hi).2.1 hq, sFd_kept (h2 i hi).2.2.1 hq, (h2 i hi).2.2.2.kept hq⟩⟩, h3.kept hq, fmt, h5, h4.kept hq⟩
theorem sOuw_warm {base : Nat} {b : Nat → Nat} {s U : State} {H : Heap} (hW : s.WarmedH U.vm) (h : sOuw base b s H) : sOuw base b U H := by
  obtain ⟨h1, ⟨adV, h2⟩, h3, fmt, h5, h4⟩ := h
  exact ⟨fun i k tx e1 e2 => (h1 i k tx e1 e2).warm hW, ⟨adV, fun i hi => ⟨sEx_moved hW.alike (h2 i hi).1, sFd_moved hW.alike (h2 i hi).2.1, sFd_moved hW.alike (h2 i hi).2.2.1, (h2 i hi).2.2.2.moved hW.alike⟩⟩, h3.moved hW.alike, fmt, h5, h4.moved hW.alike⟩
theorem sOuw_same {base : Nat} {b : Nat → Nat} {s U : State} {H : Heap} (e : s.vm = U.vm) (h : sOuw base b s H) : sOuw base b U H := by
  obtain ⟨h1, ⟨adV, h2⟩, h3, fmt, h5, h4⟩ := h
  have ha : s.vm.Alike U.vm := by rw [e]; exact Vm.Alike.refl _
  exact ⟨fun i k tx e1 e2 => (h1 i k tx e1 e2).same e.symm, ⟨adV, fun i hi => ⟨sEx_moved ha (h2 i hi).1, sFd_moved ha (h2 i hi).2.1, sFd_moved ha (h2 i hi).2.2.1, (h2 i hi).2.2.2.moved ha⟩⟩, h3.moved ha, fmt, h5, h4.moved ha⟩
def sNw (U : State) : Prop := ∀ w ∈ sNwl, w.before #[] U = true
def sEnv (p : Program) (s : State) (m : MethodId) (c : Code) (args : Array Value) (cc : ByteArray) (nL base : Nat) (b : Nat → Nat) (D : va_G) (dA : Nat → ClassId) (own : String) : Prop :=
  p.tables.exec = Jvm.exec ∧ c.code = cc ∧ c.maxLocals = nL ∧ s.vm.findClass own = some m.cls ∧ (∀ w ∈ sTB, w.before args s = true) ∧ va_K D vwCl (sTys dA) s ∧ base ≤ s.heap.size ∧ sNw s ∧ sOuw base b s s.heap
def sSt (base : Nat) (b : Nat → Nat) (D : va_G) (dA : Nat → ClassId) (s : State) (h : sHp) (H : Heap) (locs : List Loc) : Prop := va_P D vwCl (rW (sAd base b) dA h) H ∧ va_S (fun q => base ≤ q) s.heap H locs ∧ h.length ≤ 1000000
section HEAP
variable {p : Program} {l : Launch} {e : Env} {R : Room} {s : State} {m : MethodId} {args : Array Value} {below : List Frame} {meth : Method} {c : Code} {H : Heap} {locs : List Loc} {cells slots : Nat} {Q : State → Prop} {cc : ByteArray} {pc : Nat} {ls : Array Slot} {nL base : Nat} {b : Nat → Nat} {D : va_G} {dA : Nat → ClassId} {own : String}
theorem sFit_ok {σ : Nat → Nat} {ty : FieldType} {v : Value} (h : sFit ty v = true) : narrow ty (rV σ v) = rV σ v ∧ fits ty (rV σ v) = true := by
  unfold sFit at h
  split at h
  · exact ⟨rfl, rfl⟩
  · exact ⟨rfl, rfl⟩
  · rcases of_decide_eq_true h with rfl | rfl
    · exact ⟨show narrow .boolean (.int 0) = .int 0 by decide, show fits .boolean (.int 0) = true by decide⟩
    · exact ⟨show narrow .boolean (.int 1) = .int 1 by decide, show fits .boolean (.int 1) = true by decide⟩
  · exact ⟨rfl, rfl⟩
  · exact ⟨rfl, rfl⟩
  · exact ⟨rfl, rfl⟩
  · exact ⟨rfl, rfl⟩
  · cases h
theorem s_cls {h : sHp} (S : sSt base b D dA s h H locs) {a ci : Nat} {fs : List Value} (ha : h[a]? = some (.inr (ci, fs))) : ∃ q, vwCl[ci]? = some q := by
  have h1 := S.1 a _ (rW_at ha)
  obtain ⟨q, hq, -⟩ := h1
  exact ⟨q, hq⟩
def sSame (ref : String) (q : vw_C) (j : Nat) : Prop := ref = (q.2.1 j).1 ∨ Jvm.Cond.sameField ref (q.2.1 j).1 (q.2.1 j).2.1 (q.2.1 j).2.2.1 ∈ sTB
theorem s_same (hts : ∀ w ∈ sTB, w.before args s = true) {ref : String} {q : vw_C} {j : Nat} (h : sSame ref q j) : ∀ x, s.fieldFound? (q.2.1 j).1 (q.2.1 j).2.1 (q.2.1 j).2.2.1 = some x → s.fieldFound? ref (q.2.1 j).2.1 (q.2.1 j).2.2.1 = some x := by
  intro x hx
  rcases h with e | e
  · rw [e]; exact hx
  · exact u_same (hts _ e) x hx
def sGetOk (own : String) (idx k : Nat) : Prop := ∃ ref : String, ∀ (ci : Nat) (q : vw_C), vwCl[ci]? = some q → sGrp ci = k / 64 → k % 64 < q.2.2 ∧ Jvm.Cond.fieldLink own idx ref (q.2.1 (k % 64)).2.1 (q.2.1 (k % 64)).2.2.1 ∈ sTB ∧ sSame ref q (k % 64)
theorem s_get (E : sEnv p s m c args cc nL base b D dA own) {h h' : sHp} (S : sSt base b D dA s h H locs) {k idx : Nat} (hdg : decode cc pc = .ok (.getfield idx, 3)) (hf : sGetOk own idx k) {st st' : List Value} (hh : sGetF k st h = some (st', h'))
    (kk : h' = h → W p l e R s m args below meth c H locs cells slots Q (F0 m (pc + 3) ls (rS (sAd base b) st'))) : W p l e R s m args below meth c H locs cells slots Q (F0 m pc ls (rS (sAd base b) st)) := by
  obtain ⟨hx, hb, hml, hown, hts, hK, hbs, hnw, hou⟩ := E
  obtain ⟨ref, hf⟩ := hf
  unfold sGetF at hh
  split at hh
  · split at hh
    · rename_i ci fs ha
      split at hh
      · rename_i hg
        split at hh
        · rename_i v hv
          cases hh
          obtain ⟨q, hq⟩ := s_cls S ha
          obtain ⟨f1, f2, f3⟩ := hf ci q hq hg
          obtain ⟨C, T, N⟩ := q
          exact va_get hx hb hts (sCF_all ci _ hq).1 hown hK S.1 _ (rW_at ha) hq (k % 64) f1 (hts _ f2) (s_same hts f3) (v := rV (sAd base b) v) (by rw [List.getElem?_map, hv]; rfl) hdg (kk rfl)
        · cases hh
      · cases hh
    · cases hh
  · cases hh
def sPutOk (own : String) (ini : Prop) (idx k : Nat) : Prop := ∃ ref : String, ∀ (ci : Nat) (q : vw_C), vwCl[ci]? = some q → sGrp ci = k / 64 → k % 64 < q.2.2 ∧ Jvm.Cond.fieldLink own idx ref (q.2.1 (k % 64)).2.1 (q.2.1 (k % 64)).2.2.1 ∈ sTB ∧ sSame ref q (k % 64) ∧ ((q.2.1 (k % 64)).2.2.2 = true → ini ∧ (q.2.1 (k % 64)).1 = own)
theorem s_put (E : sEnv p s m c args cc nL base b D dA own) {h h' : sHp} (S : sSt base b D dA s h H locs) {k idx : Nat} (hdg : decode cc pc = .ok (.putfield idx, 3)) {ini : Prop} (hini : ini → meth.name = "<init>") (hf : sPutOk own ini idx k) {st st' : List Value} (hh : sPutF k st h = some (st', h'))
    (kk : ∀ (H1 : Heap) (locs1 : List Loc), sSt base b D dA s h' H1 locs1 → h'.length = h.length → sSl h' = sSl h → W p l e R s m args below meth c H1 locs1 cells slots Q (F0 m (pc + 3) ls (rS (sAd base b) st'))) : W p l e R s m args below meth c H locs cells slots Q (F0 m pc ls (rS (sAd base b) st)) := by
  obtain ⟨hx, hb, hml, hown, hts, hK, hbs, hnw, hou⟩ := E
  obtain ⟨ref, hf⟩ := hf
  unfold sPutF at hh
  split at hh
  · rename_i v a r
    split at hh
    · rename_i ci fs ha
      split at hh
      · rename_i hg
        cases hh
        obtain ⟨hg, hl, hfit⟩ := hg
        obtain ⟨q, hq⟩ := s_cls S ha
        obtain ⟨f1, f2, f3, f4⟩ := hf ci q hq hg
        obtain ⟨C, T, N⟩ := q
        obtain ⟨c1, c2, c3⟩ := sCF_all ci _ hq
        obtain ⟨n1, n2⟩ := sFit_ok (σ := sAd base b) hfit
        have fin : ∀ (H1 : Heap) (locs1 : List Loc), va_P D vwCl ((rW (sAd base b) dA h).set a (sAd base b a, .inr (ci, (fs.map (rV (sAd base b))).set (k % 64) (rV (sAd base b) v)))) H1 → va_D (fun q => base ≤ q) ((rW (sAd base b) dA h).set a (sAd base b a, .inr (ci, (fs.map (rV (sAd base b))).set (k % 64) (rV (sAd base b) v)))) → va_S (fun q => base ≤ q) s.heap H1 locs1 → W p l e R s m args below meth c H1 locs1 cells slots Q (F0 m (pc + 3) ls (rS (sAd base b) st')) := by
          intro H1 l1 P1 _ S1
          refine kk H1 l1 ⟨?_, S1, by rw [List.length_set]; exact S.2.2⟩ (by rw [List.length_set]) (sSl_set ha (by show (fs.set _ _).length = fs.length; rw [List.length_set]))
          rw [← rW_set]
          show va_P D vwCl ((rW (sAd base b) dA h).set a (sAd base b a, .inr (ci, (fs.set (k % 64) v).map (rV (sAd base b))))) H1
          rw [List.map_set]
          exact P1
        cases hfl : (T (k % 64)).2.2.2 with
        | false => exact va_put hx hb hts c1 (sTy ci) c2 c3 hown hK S.1 (rW_apart S.2.2) S.2.1 a (rW_at ha) hq (k % 64) f1 (hts _ f2) (s_same hts f3) hfl (c2 _ f1) n1 n2 (by rw [List.length_map]; exact hl) hdg fin
        | true =>
          obtain ⟨g1, g2⟩ := f4 hfl
          exact va_putF hx hb hts c1 (sTy ci) c2 c3 hown hK S.1 (rW_apart S.2.2) S.2.1 a (rW_at ha) hq (k % 64) f1 (hts _ f2) (s_same hts f3) hfl (hini g1) g2 (c2 _ f1) n1 n2 (by rw [List.length_map]; exact hl) hdg fin
      · cases hh
    · cases hh
  · cases hh
theorem sUpd_map (σ : Nat → Nat) (f : Nat → Option Nat) (i : Nat) (r : Option Nat) : (fun j => (va_up f i r j).map σ) = va_up (fun j => (f j).map σ) i (r.map σ) := by
  funext j
  unfold va_up
  by_cases e : j = i <;> simp [e]
theorem s_ldAI (E : sEnv p s m c args cc nL base b D dA own) {h h' : sHp} (S : sSt base b D dA s h H locs) (hdg : decode cc pc = .ok (.iaload, 1)) {st st' : List Value} (hh : sLdAI 0 st h = some (st', h'))
    (kk : h' = h → W p l e R s m args below meth c H locs cells slots Q (F0 m (pc + 1) ls (rS (sAd base b) st'))) : W p l e R s m args below meth c H locs cells slots Q (F0 m pc ls (rS (sAd base b) st)) := by
  obtain ⟨hx, hb, hml, hown, hts, hK, hbs, hnw, hou⟩ := E
  unfold sLdAI at hh
  split at hh
  · split at hh
    · rename_i t n f ha
      split at hh
      · rename_i hg
        cases hh
        obtain ⟨rfl, hin⟩ := hg
        exact va_iald hx hb hK S.1 _ 0 (rW_at ha) rfl hin hdg (kk rfl)
      · cases hh
    · cases hh
  · cases hh
theorem s_ldAZ (E : sEnv p s m c args cc nL base b D dA own) {h h' : sHp} (S : sSt base b D dA s h H locs) (hdg : decode cc pc = .ok (.baload, 1)) {st st' : List Value} (hh : sLdAI 2 st h = some (st', h'))
    (kk : h' = h → W p l e R s m args below meth c H locs cells slots Q (F0 m (pc + 1) ls (rS (sAd base b) st'))) : W p l e R s m args below meth c H locs cells slots Q (F0 m pc ls (rS (sAd base b) st)) := by
  obtain ⟨hx, hb, hml, hown, hts, hK, hbs, hnw, hou⟩ := E
  unfold sLdAI at hh
  split at hh
  · split at hh
    · rename_i t n f ha
      split at hh
      · rename_i hg
        cases hh
        obtain ⟨rfl, hin⟩ := hg
        exact va_zald hx hb hK S.1 _ 2 (rW_at ha) rfl hin hdg (kk rfl)
      · cases hh
    · cases hh
  · cases hh
theorem s_ldAL (E : sEnv p s m c args cc nL base b D dA own) {h h' : sHp} (S : sSt base b D dA s h H locs) (hdg : decode cc pc = .ok (.laload, 1)) {st st' : List Value} (hh : sLdAL st h = some (st', h'))
    (kk : h' = h → W p l e R s m args below meth c H locs cells slots Q (F0 m (pc + 1) ls (rS (sAd base b) st'))) : W p l e R s m args below meth c H locs cells slots Q (F0 m pc ls (rS (sAd base b) st)) := by
  obtain ⟨hx, hb, hml, hown, hts, hK, hbs, hnw, hou⟩ := E
  unfold sLdAL at hh
  split at hh
  · split at hh
    · rename_i t n f ha
      split at hh
      · rename_i hg
        cases hh
        obtain ⟨rfl, hin⟩ := hg
        exact va_lald hx hb hK S.1 _ 1 (rW_at ha) rfl hin hdg (kk rfl)
      · cases hh
    · cases hh
  · cases hh
theorem s_ldAA (E : sEnv p s m c args cc nL base b D dA own) {h h' : sHp} (S : sSt base b D dA s h H locs) (hdg : decode cc pc = .ok (.aaload, 1)) {st st' : List Value} (hh : sLdAA st h = some (st', h'))
    (kk : h' = h → W p l e R s m args below meth c H locs cells slots Q (F0 m (pc + 1) ls (rS (sAd base b) st'))) : W p l e R s m args below meth c H locs cells slots Q (F0 m pc ls (rS (sAd base b) st)) := by
  obtain ⟨hx, hb, hml, hown, hts, hK, hbs, hnw, hou⟩ := E
  unfold sLdAA at hh
  split at hh
  · rename_i i a r
    split at hh
    · rename_i t n f ha
      split at hh
      · rename_i hg
        cases hh
        obtain ⟨ht, hin⟩ := hg
        have hlt : i.toNatClampNeg < n := Nat.not_le.mp fun q => hin (Or.inr q)
        have key : ∀ (t0 : Nat) (ty : FieldType), (sTys dA)[t0]? = some (dA t, ty) → ty.isReference = true → W p l e R s m args below meth c H locs cells slots Q (F0 m pc ls (rS (sAd base b) (.int i :: .ref a :: r))) := by
          intro t0 ty h1 h2
          have hPa : H[sAd base b a]? = some (vp_cell (dA t) (n, .inr (.inr (.inr (.inr (fun j => (f j).map (sAd base b))))))) := S.1 _ _ (rW_at ha)
          rw [vp_cell_q] at hPa
          refine W.aald (v := va_rf ((f i.toNatClampNeg).map (sAd base b))) (ty := ty) hx hb hPa ((hK.2 t0 _ h1).1 n (fun j => va_rf ((f j).map (sAd base b)))) h2 (fun q => by cases q) (by rw [arrV_size]; exact hin) (by rw [arrV_read _ _ hlt]) rfl rfl hdg ?_
          have k2 := kk rfl
          rw [rS, List.map_cons, rV_rf] at k2
          exact k2
        rcases ht with rfl | rfl | rfl
        · exact key 3 (.object RX7) rfl rfl
        · exact key 4 (.object RX2) rfl rfl
        · exact key 5 (.array .int) rfl rfl
      · cases hh
    · cases hh
  · cases hh
theorem s_stAI (E : sEnv p s m c args cc nL base b D dA own) {h h' : sHp} (S : sSt base b D dA s h H locs) (hdg : decode cc pc = .ok (.iastore, 1)) {st st' : List Value} (hh : sStAI st h = some (st', h'))
    (kk : ∀ (H1 : Heap) (locs1 : List Loc), sSt base b D dA s h' H1 locs1 → h'.length = h.length → sSl h' = sSl h → W p l e R s m args below meth c H1 locs1 cells slots Q (F0 m (pc + 1) ls (rS (sAd base b) st'))) : W p l e R s m args below meth c H locs cells slots Q (F0 m pc ls (rS (sAd base b) st)) := by
  obtain ⟨hx, hb, hml, hown, hts, hK, hbs, hnw, hou⟩ := E
  unfold sStAI at hh
  split at hh
  · split at hh
    · rename_i t n f ha
      split at hh
      · rename_i hg
        cases hh
        obtain ⟨rfl, hin⟩ := hg
        refine va_iast hx hb hK S.1 (rW_apart S.2.2) S.2.1 _ 0 (rW_at ha) rfl hin hdg fun H1 l1 P1 _ S1 => kk H1 l1 ⟨?_, S1, by rw [List.length_set]; exact S.2.2⟩ (by rw [List.length_set]) (sSl_set ha rfl)
        rw [← rW_set]
        exact P1
      · cases hh
    · cases hh
  · cases hh
theorem s_stAZ (E : sEnv p s m c args cc nL base b D dA own) {h h' : sHp} (S : sSt base b D dA s h H locs) (hdg : decode cc pc = .ok (.bastore, 1)) {st st' : List Value} (hh : sStAZ st h = some (st', h'))
    (kk : ∀ (H1 : Heap) (locs1 : List Loc), sSt base b D dA s h' H1 locs1 → h'.length = h.length → sSl h' = sSl h → W p l e R s m args below meth c H1 locs1 cells slots Q (F0 m (pc + 1) ls (rS (sAd base b) st'))) : W p l e R s m args below meth c H locs cells slots Q (F0 m pc ls (rS (sAd base b) st)) := by
  obtain ⟨hx, hb, hml, hown, hts, hK, hbs, hnw, hou⟩ := E
  unfold sStAZ at hh
  split at hh
  · rename_i x i a r
    split at hh
    · rename_i t n f ha
      split at hh
      · rename_i hg
        cases hh
        obtain ⟨rfl, hx01, hin⟩ := hg
        refine va_zast hx hb hK S.1 (rW_apart S.2.2) S.2.1 _ 2 (rW_at ha) rfl hin hdg fun H1 l1 P1 _ S1 => kk H1 l1 ⟨?_, S1, by rw [List.length_set]; exact S.2.2⟩ (by rw [List.length_set]) (sSl_set ha rfl)
        have hz : vp_nar .boolean x = x := by rcases hx01 with rfl | rfl <;> decide
        rw [hz] at P1
        rw [← rW_set]
        exact P1
      · cases hh
    · cases hh
  · cases hh
theorem s_stAL (E : sEnv p s m c args cc nL base b D dA own) {h h' : sHp} (S : sSt base b D dA s h H locs) (hdg : decode cc pc = .ok (.lastore, 1)) {st st' : List Value} (hh : sStAL st h = some (st', h'))
    (kk : ∀ (H1 : Heap) (locs1 : List Loc), sSt base b D dA s h' H1 locs1 → h'.length = h.length → sSl h' = sSl h → W p l e R s m args below meth c H1 locs1 cells slots Q (F0 m (pc + 1) ls (rS (sAd base b) st'))) : W p l e R s m args below meth c H locs cells slots Q (F0 m pc ls (rS (sAd base b) st)) := by
  obtain ⟨hx, hb, hml, hown, hts, hK, hbs, hnw, hou⟩ := E
  unfold sStAL at hh
  split at hh
  · split at hh
    · rename_i t n f ha
      split at hh
      · rename_i hg
        cases hh
        obtain ⟨rfl, hin⟩ := hg
        refine va_last hx hb hK S.1 (rW_apart S.2.2) S.2.1 _ 1 (rW_at ha) rfl hin hdg fun H1 l1 P1 _ S1 => kk H1 l1 ⟨?_, S1, by rw [List.length_set]; exact S.2.2⟩ (by rw [List.length_set]) (sSl_set ha rfl)
        rw [← rW_set]
        exact P1
      · cases hh
    · cases hh
  · cases hh
theorem s_cpy (E : sEnv p s m c args cc nL base b D dA own) (hsl : ls.size = nL) {h h' : sHp} (S : sSt base b D dA s h H locs) {idx : Nat} (hdg : decode cc pc = .ok (.invokestatic idx, 3)) (w1 : Jvm.Cond.methodLink own idx arraycopyName ∈ sTB) (w2 : Jvm.Cond.native arraycopyName ∈ sTB) (w3 : Jvm.Cond.static arraycopyName ∈ sTB) (w4 : Jvm.Cond.initialized "java/lang/System" ∈ sTB) (hRf : 1 ≤ R.frames) (hRl : 39 ≤ R.locals) {st st' : List Value} (hh : sCpy st h = some (st', h'))
    (kk : ∀ (H1 : Heap) (locs1 : List Loc), sSt base b D dA s h' H1 locs1 → h'.length = h.length → sSl h' = sSl h → W p l e R s m args below meth c H1 locs1 cells slots Q (F0 m (pc + 3) ls (rS (sAd base b) st'))) : W p l e R s m args below meth c H locs cells slots Q (F0 m pc ls (rS (sAd base b) st)) := by
  obtain ⟨hx, hb, hml, hown, hts, hK, hbs, hnw, hou⟩ := E
  unfold sCpy at hh
  split at hh
  · rename_i n dp a sp a0
    split at hh
    · rename_i n0 f n1 g ha0 ha
      split at hh
      · rename_i hg
        cases hh
        obtain ⟨h1, h2, h3, h4, h5⟩ := hg
        refine va_copyl (a := sAd base b a) (rest := []) hx hb (hml.trans hsl.symm) hown (hts _ w1) (hts _ w2) (hts _ w3) (hts _ w4) hK S.1 (rW_apart S.2.2) S.2.1 a0 a 1 1 (rW_at ha0) (rW_at ha) rfl rfl rfl h1 h2 h3 h4 h5 (fun _ _ => rfl) hRf (Nat.le_trans (by decide) hRl) hdg fun H1 l1 P1 _ S1 => kk H1 l1 ⟨?_, S1, by rw [List.length_set]; exact S.2.2⟩ (by rw [List.length_set]) (sSl_set ha rfl)
        rw [← rW_set]
        exact P1
      · cases hh
    · cases hh
  · cases hh
theorem s_ldcS (E : sEnv p s m c args cc nL base b D dA RX6) {i idx : Nat} (hi : i < 7) (hk : sTxI[i]? = some idx) (hdg : decode cc pc = .ok (.ldc idx, 2)) {st : List Value}
    (kk : W p l e R s m args below meth c H locs cells slots Q (F0 m (pc + 2) ls (rS (sAd base b) (.ref (2000000 + i) :: st)))) : W p l e R s m args below meth c H locs cells slots Q (F0 m pc ls (rS (sAd base b) st)) := by
  obtain ⟨hx, hb, hml, hown, hts, hK, hbs, hnw, hou⟩ := E
  obtain ⟨tx, htx⟩ : ∃ tx, sTxT[i]? = some tx := ⟨sTxT[i]'hi, List.getElem?_eq_getElem hi⟩
  refine va_ldcS hx hb hown (hou.1 i idx tx hk htx) hdg ?_
  have e : rS (sAd base b) (.ref (2000000 + i) :: st) = .ref (b (2000000 + i)) :: rS (sAd base b) st := by
    show Value.ref (sAd base b (2000000 + i)) :: _ = _
    unfold sAd
    rw [if_pos (by omega)]
  rw [e] at kk
  exact kk
theorem s_castOk (hnw : sNw s) {ci : Nat} {q : vw_C} (hq : vwCl[ci]? = some q) (hg : sGrp ci = 2) (hl : ci < 11) : ci = 2 ∨ (Jvm.Cond.castable q.1 RX2).before #[] s = true := by
  match ci, hq, hg, hl with
  | 0, hq, _, _ => cases hq; exact Or.inr (hnw _ (by simp [sNwl]))
  | 1, hq, _, _ => cases hq; exact Or.inr (hnw _ (by simp [sNwl]))
  | 2, hq, _, _ => exact Or.inl rfl
  | 3, hq, hg, _ => exact absurd hg (by decide)
  | 4, hq, _, _ => cases hq; exact Or.inr (hnw _ (by simp [sNwl]))
  | 5, hq, _, _ => cases hq; exact Or.inr (hnw _ (by simp [sNwl]))
  | 6, hq, hg, _ => exact absurd hg (by decide)
  | 7, hq, hg, _ => exact absurd hg (by decide)
  | 8, hq, hg, _ => exact absurd hg (by decide)
  | 9, hq, _, _ => cases hq; exact Or.inr (hnw _ (by simp [sNwl]))
  | 10, hq, _, _ => cases hq; exact Or.inr (hnw _ (by simp [sNwl]))
  | k + 11, _, _, hl => omega
theorem s_stAA (E : sEnv p s m c args cc nL base b D dA own) {h h' : sHp} (S : sSt base b D dA s h H locs) (hdg : decode cc pc = .ok (.aastore, 1)) {st st' : List Value} (hh : sStAA st h = some (st', h'))
    (kk : ∀ (H1 : Heap) (locs1 : List Loc), sSt base b D dA s h' H1 locs1 → h'.length = h.length → sSl h' = sSl h → W p l e R s m args below meth c H1 locs1 cells slots Q (F0 m (pc + 1) ls (rS (sAd base b) st'))) : W p l e R s m args below meth c H locs cells slots Q (F0 m pc ls (rS (sAd base b) st)) := by
  obtain ⟨hx, hb, hml, hown, hts, hK, hbs, hnw, hou⟩ := E
  unfold sStAA at hh
  split at hh
  · rename_i q i a r
    split at hh
    · rename_i t n f ha
      split at hh
      · rename_i hg
        cases hh
        obtain ⟨hob, hin⟩ := hg
        have fin : ∀ (H1 : Heap) (l1 : List Loc), va_P D vwCl ((rW (sAd base b) dA h).set a (sAd base b a, .inl (dA t, n, .inr (.inr (.inr (.inr (va_up (fun j => (f j).map (sAd base b)) i.toNatClampNeg (some (sAd base b q))))))))) H1 → va_D (fun q => base ≤ q) ((rW (sAd base b) dA h).set a (sAd base b a, .inl (dA t, n, .inr (.inr (.inr (.inr (va_up (fun j => (f j).map (sAd base b)) i.toNatClampNeg (some (sAd base b q))))))))) → va_S (fun q => base ≤ q) s.heap H1 l1 → W p l e R s m args below meth c H1 l1 cells slots Q (F0 m (pc + 1) ls (rS (sAd base b) st')) := by
          intro H1 l1 P1 _ S1
          refine kk H1 l1 ⟨?_, S1, by rw [List.length_set]; exact S.2.2⟩ (by rw [List.length_set]) (sSl_set ha rfl)
          rw [← rW_set]
          show va_P D vwCl ((rW (sAd base b) dA h).set a (sAd base b a, .inl (dA t, n, .inr (.inr (.inr (.inr (fun j => (va_up f i.toNatClampNeg (some q) j).map (sAd base b)))))))) H1
          rw [sUpd_map]
          exact P1
        unfold sIsObj at hob
        split at hob
        · rename_i ci fs hq
          simp only [Bool.or_eq_true, Bool.and_eq_true, beq_iff_eq, decide_eq_true_eq] at hob
          obtain ⟨qc, hqc⟩ := s_cls S hq
          rcases hob with ⟨rfl, rfl⟩ | ⟨rfl, hg2, hl⟩
          · cases hqc
            refine va_astqM (E := RX7) hx hb hK S.1 (rW_apart S.2.2) S.2.1 _ 3 (rW_at ha) rfl (va_rAny hK S.1 (rW_at hq) rfl ?_) hin hdg fin
            intro comp c0 h1 h2
            cases h1.symm.trans h2
            have h3 := (hK.1 7 _ rfl).2
            cases h3.1.symm.trans h1
            exact va_assign h3
          · refine va_astqM (E := RX2) hx hb hK S.1 (rW_apart S.2.2) S.2.1 _ 4 (rW_at ha) rfl (va_rAny hK S.1 (rW_at hq) hqc ?_) hin hdg fin
            intro comp c0 h1 h2
            rcases s_castOk hnw hqc hg2 hl with rfl | hc
            · cases hqc
              cases h1.symm.trans h2
              have h3 := (hK.1 2 _ rfl).2
              cases h3.1.symm.trans h1
              exact va_assign h3
            · obtain ⟨c3, c4, e3, e4, hasg⟩ := Cond.castable_spec hc
              cases h2.symm.trans e3
              cases h1.symm.trans e4
              exact hasg
        · cases hob
      · cases hh
    · cases hh
  · rename_i i a r
    split at hh
    · rename_i t n f ha
      split at hh
      · rename_i hg
        cases hh
        obtain ⟨ht, hin⟩ := hg
        have fin : ∀ (H1 : Heap) (l1 : List Loc), va_P D vwCl ((rW (sAd base b) dA h).set a (sAd base b a, .inl (dA t, n, .inr (.inr (.inr (.inr (va_up (fun j => (f j).map (sAd base b)) i.toNatClampNeg none))))))) H1 → va_D (fun q => base ≤ q) ((rW (sAd base b) dA h).set a (sAd base b a, .inl (dA t, n, .inr (.inr (.inr (.inr (va_up (fun j => (f j).map (sAd base b)) i.toNatClampNeg none))))))) → va_S (fun q => base ≤ q) s.heap H1 l1 → W p l e R s m args below meth c H1 l1 cells slots Q (F0 m (pc + 1) ls (rS (sAd base b) st')) := by
          intro H1 l1 P1 _ S1
          refine kk H1 l1 ⟨?_, S1, by rw [List.length_set]; exact S.2.2⟩ (by rw [List.length_set]) (sSl_set ha rfl)
          rw [← rW_set]
          show va_P D vwCl ((rW (sAd base b) dA h).set a (sAd base b a, .inl (dA t, n, .inr (.inr (.inr (.inr (fun j => (va_up f i.toNatClampNeg none j).map (sAd base b)))))))) H1
          rw [sUpd_map]
          exact P1
        rcases ht with rfl | rfl
        · exact va_astqN hx hb hK S.1 (rW_apart S.2.2) S.2.1 _ 3 (rW_at ha) rfl hin hdg fin
        · exact va_astqN hx hb hK S.1 (rW_apart S.2.2) S.2.1 _ 4 (rW_at ha) rfl hin hdg fin
      · cases hh
    · cases hh
  · cases hh
theorem rA_len (σ : Nat → Nat) (a : vp_A) : (rA σ a).1 = a.1 := by
  obtain ⟨n, d⟩ := a
  rcases d with d | d | d | d | d <;> rfl
theorem s_alen (E : sEnv p s m c args cc nL base b D dA own) {h h' : sHp} (S : sSt base b D dA s h H locs) (hdg : decode cc pc = .ok (.arraylength, 1)) {st st' : List Value} (hh : sALen st h = some (st', h'))
    (kk : h' = h → W p l e R s m args below meth c H locs cells slots Q (F0 m (pc + 1) ls (rS (sAd base b) st'))) : W p l e R s m args below meth c H locs cells slots Q (F0 m pc ls (rS (sAd base b) st)) := by
  obtain ⟨hx, hb, hml, hown, hts, hK, hbs, hnw, hou⟩ := E
  unfold sALen at hh
  split at hh
  · split at hh
    · rename_i t n d ha
      split at hh
      · rename_i ht
        cases hh
        have hty : ∃ ty, (sTys dA)[t]? = some (dA t, ty) := by
          match t, ht with
          | 0, _ => exact ⟨_, rfl⟩
          | 1, _ => exact ⟨_, rfl⟩
          | 2, _ => exact ⟨_, rfl⟩
          | 3, _ => exact ⟨_, rfl⟩
          | 4, _ => exact ⟨_, rfl⟩
          | 5, _ => exact ⟨_, rfl⟩
        obtain ⟨ty, hty⟩ := hty
        exact va_alen hx hb hK S.1 _ t (rW_at ha) hty (by rw [rA_len]) hdg (kk rfl)
      · cases hh
    · cases hh
  · cases hh
end HEAP
