/-! ===== new int[5][6] ===== -/
section MNA
def sOut (cA : ClassId) (h0 i : Nat) : Cell := arrV cA 5 (fun j => va_rf (if j < i then some (h0 + 1 + j) else none))
def sInn (cB : ClassId) : Cell := arrV cB 6 (fun _ => .int 0)
def sFil (T : State) (cA cB : ClassId) : Nat → State
  | 0 => T.pushCell (sOut cA T.heap.size 0)
  | i + 1 => ((sFil T cA cB i).pushCell (sInn cB)).setCell T.heap.size (sOut cA T.heap.size (i + 1))
theorem sOut_next (cA : ClassId) (h0 i : Nat) : (sOut cA h0 i).setSlot i (.ref (h0 + 1 + i)) = sOut cA h0 (i + 1) := by
  unfold sOut
  rw [arrV_store]
  refine congrArg (arrV cA 5) (funext fun j => ?_)
  unfold updV
  by_cases e : j = i
  · subst e
    rw [if_pos rfl, if_pos (Nat.lt_succ_self j)]
    rfl
  · rw [if_neg e]
    dsimp only
    by_cases h : j < i
    · rw [if_pos h, if_pos (by omega)]
    · rw [if_neg h, if_neg (by omega)]
theorem sFil_facts (T : State) (cA cB : ClassId) : ∀ i, (sFil T cA cB i).heap.size = T.heap.size + 1 + i ∧ (sFil T cA cB i).heap[T.heap.size]? = some (sOut cA T.heap.size i) ∧ (sFil T cA cB i).vm = T.vm ∧ (sFil T cA cB i).slotsUsed = T.slotsUsed + 5 + 6 * i ∧ (∀ a, a < T.heap.size → (sFil T cA cB i).heap[a]? = T.heap[a]?) ∧ ∀ j, j < i → (sFil T cA cB i).heap[T.heap.size + 1 + j]? = some (sInn cB)
  | 0 => ⟨by simp [sFil], by simp [sFil], rfl, by simp [sFil, sOut, arrV_size], fun a ha => State.heap_pushCell_of_lt _ _ ha, fun j h => absurd h (Nat.not_lt_zero _)⟩
  | i + 1 => by
    obtain ⟨f1, f2, f3, f4, f5, f6⟩ := sFil_facts T cA cB i
    have hlt : T.heap.size < (sFil T cA cB i).heap.size := by omega
    have hb : ((sFil T cA cB i).pushCell (sInn cB)).heap[T.heap.size]? = some (sOut cA T.heap.size i) := by rw [State.heap_pushCell_of_lt (h := hlt)]; exact f2
    refine ⟨?_, State.heap_setCell_self hb, by simp [sFil, f3], ?_, fun a ha => ?_, fun j hj => ?_⟩
    · simp [sFil, State.setCell, f1]; omega
    · simp [sFil, f4, sInn, arrV_size]; omega
    · show (((sFil T cA cB i).pushCell (sInn cB)).setCell T.heap.size _).heap[a]? = _
      rw [State.heap_setCell_other (Nat.ne_of_gt ha), State.heap_pushCell_of_lt (h := Nat.lt_trans ha hlt)]
      exact f5 a ha
    · show (((sFil T cA cB i).pushCell (sInn cB)).setCell T.heap.size _).heap[T.heap.size + 1 + j]? = _
      rw [State.heap_setCell_other (show T.heap.size ≠ T.heap.size + 1 + j by omega)]
      rcases Nat.lt_or_ge j i with h | h
      · rw [State.heap_pushCell_of_lt (h := show T.heap.size + 1 + j < (sFil T cA cB i).heap.size by omega)]
        exact f6 j h
      · have e : T.heap.size + 1 + j = (sFil T cA cB i).heap.size := by omega
        rw [e]
        exact State.heap_pushCell_size _ _
theorem sFil_top (T : State) (f : JFrame) (cA cB : ClassId) : ∀ i, sFil (T.setTop f) cA cB i = (sFil T cA cB i).setTop f
  | 0 => rfl
  | i + 1 => by simp only [sFil, sFil_top T f cA cB i, State.heap_setTop, State.pushCell_setTop, State.setCell_setTop]
variable {p : Program} {l : Launch} {e : Env} {R : Room} {s : State} {m : MethodId} {args : Array Value} {below : List Frame} {meth : Method} {c : Code} {T : State} {H : Heap} {locs : List Loc} {cells slots : Nat} {Q : State → Prop}
theorem sFil_stand (X : Stand p l e R s m args below meth c T locs cells slots) (cA cB : ClassId) : ∀ i, ∃ L : List Loc, (∀ q ∈ L, q.base = T.heap.size) ∧ Stand p l e R s m args below meth c (sFil T cA cB i) (locs ++ L) (cells + 1 + i) (slots + 5 + 6 * i)
  | 0 => by
    have h := X.pushed (sOut cA T.heap.size 0)
    rw [show (sOut cA T.heap.size 0).slots.size = 5 from arrV_size _ _ _] at h
    exact ⟨[], (fun q hq => by cases hq), by rw [List.append_nil]; exact h⟩
  | i + 1 => by
    obtain ⟨L, hL, Xi⟩ := sFil_stand X cA cB i
    obtain ⟨f1, f2, -⟩ := sFil_facts T cA cB i
    have hlt : T.heap.size < (sFil T cA cB i).heap.size := by omega
    have hb : ((sFil T cA cB i).pushCell (sInn cB)).heap[T.heap.size]? = some (sOut cA T.heap.size i) := by rw [State.heap_pushCell_of_lt (h := hlt)]; exact f2
    have h := (Xi.pushed (sInn cB)).stored hb i (.ref (T.heap.size + 1 + i))
    rw [show (sInn cB).slots.size = 6 from arrV_size _ _ _, sOut_next] at h
    refine ⟨L ++ [⟨T.heap.size, i⟩], fun q hq => ?_, ?_⟩
    · rcases List.mem_append.mp hq with h | h
      · exact hL q h
      · rw [List.mem_singleton.mp h]
    · rw [← List.append_assoc, show slots + 5 + 6 * (i + 1) = slots + 5 + 6 * i + 6 by omega]
      exact h
section WPN
variable {E : CtlPost} {d : Bool} {acts : List Action} {t : State}
theorem s_wpNew {cX comp : ClassId} {k : Class} {type : FieldType} {len : Nat} {init : Value} (hk : t.vm.classes[cX]? = some k) (hkind : k.kind = .array comp type) (hlimit : ¬ len > e.platform.arrayLengthLimit) (hheap : ¬ len * componentBytes type > e.platform.maxHeapBytes) (hfit : fits type init = true) (hdef : init.isDefault = true) {Qa : Addr → Pre} (h1 : t.heap.size < e.platform.maxCells) (h2 : t.slotsUsed + len ≤ e.platform.maxSlots)
    (hq : Qa t.heap.size d acts (t.pushCell (arrV cX len (fun _ => init)))) : wp (Jvm.newArray cX len init) Qa E e d acts t := by
  rw [← arrV_new] at hq
  have hfits : ∀ i v, (Array.replicate len init)[i]? = some v → t.fitsSlot cX .none i v = true := by
    intro i v hv
    rw [Array.getElem?_replicate] at hv
    split at hv
    · cases hv
      simp [State.fitsSlot, State.slotType?, hk, hkind, hfit]
    · cases hv
  have hall : ((Array.replicate len init).all (·.isDefault)) = true := by
    rw [Array.all_replicate]
    split <;> simp [hdef]
  have hda : allocActs (Array.replicate len init) t.heap.size acts = acts := by
    unfold allocActs
    rw [if_pos hall]
  simp only [Jvm.newArray, Jvm.arrayFits, wp_bind', W.ask, W.ite, hlimit, if_false, wp_pure', W.theClass, hk, hkind, hheap, W.alloc, W.stop, Option.some.injEq, exists_eq_left', Array.size_replicate, hda]
  rw [if_neg (by omega)]
  exact ⟨h1, h2, hfits, hq⟩
theorem s_wpMake {cA cB cI : ClassId} {kA kB : Class} (hkA : t.vm.classes[cA]? = some kA) (hkindA : kA.kind = .array cB (.array .int)) (hkB : t.vm.classes[cB]? = some kB) (hkindB : kB.kind = .array cI .int)
    (hl1 : ¬ 5 > e.platform.arrayLengthLimit) (hh1 : ¬ 5 * componentBytes (.array .int) > e.platform.maxHeapBytes) (hl2 : ¬ 6 > e.platform.arrayLengthLimit) (hh2 : ¬ 6 * componentBytes .int > e.platform.maxHeapBytes)
    (hc : t.heap.size + 6 ≤ e.platform.maxCells) (hs : t.slotsUsed + 35 ≤ e.platform.maxSlots) {Qa : Addr → Pre} (hq : ∀ d' acts', Qa t.heap.size d' acts' (sFil t cA cB 5)) : wp (multianewarray.make cA [5, 6]) Qa E e d acts t := by
  have n5 : ¬ (5 : Int32) < 0 := by decide
  have n6 : ¬ (6 : Int32) < 0 := by decide
  have c5 : (5 : Int32).toNatClampNeg = 5 := by decide
  have c6 : (6 : Int32).toNatClampNeg = 6 := by decide
  have hfind : (([6] : List Int32).find? (· < 0)) = none := by simp [n6]
  have href : ∀ v : Value, (v = .null ∨ ∃ a, v = .ref a) → fits (.array .int) v = true := by
    rintro v (rfl | ⟨a, rfl⟩) <;> rfl
  rw [multianewarray.make]
  simp only [wp_bind', W.ite, n5, if_false, wp_pure', W.theClass, hkA, hkindA, Option.some.injEq, exists_eq_left', c5]
  refine s_wpNew hkA hkindA hl1 hh1 rfl rfl (by omega) (by omega) ?_
  simp only [hfind]
  rw [ite_self, wp_bind', Std.Legacy.Range.forIn_eq_forIn_range']
  have hsz : ([:5] : Std.Legacy.Range).size = 5 := by simp [Std.Legacy.Range.size]
  rw [hsz]
  show wp (forIn (List.range' 0 5 1) PUnit.unit _) _ E e d acts _
  refine wp_forIn_inv (fun rest t' => ∃ i, i ≤ 5 ∧ rest = List.range' i (5 - i) ∧ t' = sFil t cA cB i) _ _ ⟨0, Nat.zero_le _, rfl, rfl⟩ ?_ ?_
  · rintro x rest t' d' acts' Q' ⟨i, hi, hl, rfl⟩ hnext
    have hlt : i < 5 := by
      rcases Nat.lt_or_ge i 5 with h | h
      · exact h
      · rw [show 5 - i = 0 by omega] at hl; cases hl
    rw [show 5 - i = (5 - (i + 1)) + 1 by omega, List.range'_succ] at hl
    obtain ⟨rfl, rfl⟩ := List.cons.inj hl
    obtain ⟨f1, f2, f3, f4, -⟩ := sFil_facts t cA cB x
    rw [multianewarray.make]
    simp only [wp_bind', W.ite, n6, if_false, wp_pure', W.theClass, f3, hkB, hkindB, Option.some.injEq, exists_eq_left', c6]
    refine s_wpNew (by rw [f3]; exact hkB) hkindB hl2 hh2 rfl rfl (by omega) (by omega) ?_
    have hlt0 : t.heap.size < (sFil t cA cB x).heap.size := by omega
    simp only [wp_bind', W.writeLoc, wp_pure']
    refine ⟨sOut cA t.heap.size x, by rw [State.heap_pushCell_of_lt (h := hlt0)]; exact f2, (fun q => by cases q), by rw [show (sOut cA t.heap.size x).slots.size = 5 from arrV_size _ _ _]; exact hlt, ?_, hnext _ _ _ ⟨x + 1, hlt, rfl, ?_⟩⟩
    · show (_ : State).fitsSlot cA .none x _ = true
      simp [State.fitsSlot, State.slotType?, f3, hkA, hkindA, href _ (Or.inr ⟨_, rfl⟩)]
    · rw [f1, sOut_next]
      rfl
  · rintro t' d' acts' ⟨i, hi, hl, rfl⟩
    have hiN : i = 5 := by
      rcases Nat.lt_or_ge i 5 with h | h
      · rw [show 5 - i = (5 - (i + 1)) + 1 by omega, List.range'_succ] at hl; cases hl
      · omega
    subst hiN
    simp only [wp_pure']
    exact hq _ _
end WPN
end MNA
