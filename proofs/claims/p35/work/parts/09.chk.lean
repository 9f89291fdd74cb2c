/-! ===== the rows are what the bytes say, and their words stand in the tables ===== -/
def mY (q : sMt) : MethodName := q.1
def mC (q : sMt) : ByteArray := q.2.1
def mN (q : sMt) : Nat := q.2.2.1
def mR (q : sMt) : Option FieldType := q.2.2.2.1
def mK (q : sMt) : Nat := q.2.2.2.2.1
def mI (q : sMt) : Nat := q.2.2.2.2.2.1
def mA (q : sMt) : Nat := q.2.2.2.2.2.2.1
def mW (q : sMt) : List Nat := q.2.2.2.2.2.2.2.1
def mT (q : sMt) : List sEt := q.2.2.2.2.2.2.2.2
def sM (k : Nat) : Option sMt := sMs[k]?
def sNA (k : Nat) : Nat := match sM k with
  | some q => mA q
  | none => 0
def sOwn (k : Nat) : Nat := match sM k with
  | some q => mI q
  | none => 99
def sFt (q : sMt) (pc : Nat) : Option Instr := match (mT q).find? (fun e => e.1 == pc) with
  | some e => some e.2.2.1
  | none => none
/-- length and charAt of the words -/
def sStC (d k : Nat) (as : List Value) (h : sHp) : sOr := match as with
  | [.ref a] => if k = 300 ∧ 1 ≤ d ∧ 2000000 ≤ a ∧ a < 2000007 then some (some (.int (Int32.ofNat (sTxL.getD (a - 2000000) 0))), h) else none
  | [.ref a, .int i] => if k = 301 ∧ 3 ≤ d ∧ (2000000 ≤ a ∧ a < 2000007) ∧ ¬ (i < 0 ∨ sTxL.getD (a - 2000000) 0 ≤ i.toNatClampNeg) then some (some (.int (sTxC (a - 2000000) i.toNatClampNeg)), h) else none
  | _ => none
def sCall : Nat → Nat → Nat → List Value → sHp → sOr
  | 0, _, _, _, _ => none
  | d + 1, n, k, as, h => if 300 ≤ k then sStC d k as h else (sM k).bind fun q => (sIni (mN q) as).bind fun L => sRun none (sFt q) (mR q) (sCal sNA sOwn sVt) (sCall d n) n 0 L [] h
def sCN (ci : Nat) : String := match vwCl[ci]? with
  | some q => q.1
  | none => ""
def sWi (p : Nat) (w : Jvm.Cond) : Bool := decide (sW p = some w)
theorem sWi_in {p : Nat} {w : Jvm.Cond} (h : sWi p w = true) : w ∈ sTB := sW_in (of_decide_eq_true h)
def sR1 (i : Instr) (r : List Nat) (f : Nat → Instr) : Instr := match r with
  | x :: _ => f x
  | [] => i
def sReal (i : Instr) (r : List Nat) : Instr := match i with
  | .getfield k => sR1 (.getfield k) r (fun x => .getfield x)
  | .putfield k => sR1 (.putfield k) r (fun x => .putfield x)
  | .new k => sR1 (.new k) r (fun x => .new x)
  | .anewarray k => sR1 (.anewarray k) r (fun x => .anewarray x)
  | .multianewarray k d => sR1 (.multianewarray k d) r (fun x => .multianewarray x d)
  | .ldc2_w k => sR1 (.ldc2_w k) r (fun x => .ldc2_w x)
  | .ldc k => sR1 (.ldc k) r (fun x => .ldc x)
  | .ldc_w k => sR1 (.ldc_w k) r (fun x => .ldc_w x)
  | .invokevirtual k => sR1 (.invokevirtual k) r (fun x => .invokevirtual x)
  | .invokestatic k => sR1 (.invokestatic k) r (fun x => .invokestatic x)
  | .invokespecial k => sR1 (.invokespecial k) r (fun x => .invokespecial x)
  | .invokeinterface k c => sR1 (.invokeinterface k c) r (fun x => .invokevirtual x)
  | i => i
def sAllC (P : Nat → vw_C → Bool) : Bool := (List.range 13).all (fun ci => match vwCl[ci]? with
  | some q => P ci q
  | none => true)
theorem sAllC_of {P : Nat → vw_C → Bool} (h : sAllC P = true) (ci : Nat) (q : vw_C) (hq : vwCl[ci]? = some q) : P ci q = true := by
  have hl : ci < 13 := (List.getElem?_eq_some_iff.mp hq).1
  have h1 := List.all_eq_true.mp h ci (List.mem_range.mpr hl)
  rw [hq] at h1
  exact h1
def sChkG (own : String) (k idx p1 rc p2 : Nat) : Bool := sAllC (fun ci q => !(sGrp ci == k / 64) || (decide (k % 64 < q.2.2) && sWi p1 (.fieldLink own idx (sCN rc) (q.2.1 (k % 64)).2.1 (q.2.1 (k % 64)).2.2.1) && (decide (sCN rc = (q.2.1 (k % 64)).1) || sWi p2 (.sameField (sCN rc) (q.2.1 (k % 64)).1 (q.2.1 (k % 64)).2.1 (q.2.1 (k % 64)).2.2.1))))
def sChkF (own nm : String) (k : Nat) : Bool := sAllC (fun ci q => !(sGrp ci == k / 64) || (!(q.2.1 (k % 64)).2.2.2 || (decide (nm = "<init>") && decide ((q.2.1 (k % 64)).1 = own))))
theorem sChkG_ok {own : String} {k idx p1 rc p2 : Nat} (h : sChkG own k idx p1 rc p2 = true) : sGetOk own idx k := by
  refine ⟨sCN rc, fun ci q hq hg => ?_⟩
  have h1 := sAllC_of h ci q hq
  simp only [Bool.or_eq_true, Bool.and_eq_true, Bool.not_eq_true', beq_eq_false_iff_ne, decide_eq_true_eq] at h1
  rcases h1 with h1 | ⟨⟨h1, h2⟩, h3⟩
  · exact absurd hg h1
  · exact ⟨h1, sWi_in h2, h3.imp id sWi_in⟩
theorem sChkF_ok {own nm : String} {k idx p1 rc p2 : Nat} (h : sChkG own k idx p1 rc p2 = true) (h' : sChkF own nm k = true) : sPutOk own (nm = "<init>") idx k := by
  obtain ⟨ref, h0⟩ := sChkG_ok h
  refine ⟨ref, fun ci q hq hg => ?_⟩
  obtain ⟨f1, f2, f3⟩ := h0 ci q hq hg
  refine ⟨f1, f2, f3, fun hf => ?_⟩
  have h1 := sAllC_of h' ci q hq
  simp only [Bool.or_eq_true, Bool.and_eq_true, Bool.not_eq_true', beq_eq_false_iff_ne, decide_eq_true_eq] at h1
  rcases h1 with h1 | h1 | h1
  · exact absurd hg h1
  · rw [hf] at h1; cases h1
  · exact h1
/-- the names under which a cut's calls stand -/
def sFx (k : Nat) : MethodName := match k with
  | 1000 => yX2_isOf
  | 1001 => yX2_firstIn
  | 1002 => yX2_laneIn
  | 1003 => yX2_partsBody
  | 1004 => yX2_weighsBody
  | _ => yX2_hedgesBody
def sFn (k : Nat) : Nat := sVt k 2
def sSup (own : String) (idx p p2 p3 : Nat) (y : MethodName) : Bool := sWi p (.methodLink own idx y) && sWi p2 (.sameMethod y.cls y.cls y.name y.desc) && sWi p3 (.superclass own y.cls)
/-- a method that the superclass itself has from above -/
def sSup2 (own : String) (idx p p2 p3 p4 : Nat) (y : MethodName) : Bool := match sW p with
  | some (.methodLink o i x) => decide (o = own ∧ i = idx ∧ x.name = y.name ∧ x.desc = y.desc) && (sWi p2 (.sameMethod x.cls y.cls y.name y.desc) && (sWi p3 (.superclass own x.cls) && sWi p4 (.superclass x.cls y.cls)))
  | _ => false
theorem sSup2_of {own : String} {idx p p2 p3 p4 : Nat} {y : MethodName} (h : sSup2 own idx p p2 p3 p4 y = true) : ∃ xc : String, Jvm.Cond.methodLink own idx ⟨xc, y.name, y.desc⟩ ∈ sTB ∧ Jvm.Cond.sameMethod xc y.cls y.name y.desc ∈ sTB ∧ Jvm.Cond.superclass own xc ∈ sTB ∧ Jvm.Cond.superclass xc y.cls ∈ sTB := by
  unfold sSup2 at h
  split at h
  · rename_i o i x hw
    simp only [Bool.and_eq_true, decide_eq_true_eq] at h
    obtain ⟨⟨rfl, rfl, e1, e2⟩, h2, h3, h4⟩ := h
    obtain ⟨xc, xn, xd⟩ := x
    dsimp only at e1 e2 h2 h3 h4
    subst e1 e2
    exact ⟨xc, sW_in hw, sWi_in h2, sWi_in h3, sWi_in h4⟩
  · cases h
def sExt (own nm : String) (ins : Instr) (r : List Nat) : Bool := match ins with
  | .getfield k => (match r with
    | [idx, p1, rc, p2] => sChkG own k idx p1 rc p2
    | _ => false)
  | .putfield k => (match r with
    | [idx, p1, rc, p2] => sChkG own k idx p1 rc p2 && sChkF own nm k
    | _ => false)
  | .new k => (match r, vwCl[k]? with
    | [idx, p1, p2, p3], some q => sWi p1 (.classLink own idx q.1) && sWi p2 (.instantiable q.1 q.2.2) && sWi p3 (.initialized q.1)
    | _, _ => false)
  | .newarray t => (match r with
    | [p] => sWi p (.arrayClass (newarray.typeOf t))
    | _ => false)
  | .anewarray k => (match r with
    | [idx, p] => (k == 3 && sWi p (.classLink own idx RX7)) || (k == 4 && sWi p (.classLink own idx RX2))
    | _ => false)
  | .multianewarray k d => (match r with
    | [idx, p, p2] => d == 2 && (sWi p (.classLink own idx ("[" ++ (FieldType.array .int).toString)) && sWi p2 (.arrayClass .int))
    | _ => false)
  | .ldc2_w k => (match r with
    | [idx, p] => sWi p (.constantLong own idx (Int64.ofNat k))
    | _ => false)
  | .ldc k => (match r with
    | [idx, p] => decide (k < 4294967296) && sWi p (.constant own idx (Int32.ofNat k))
    | [idx] => decide (own = RX6 ∧ 4294967296 ≤ k ∧ sTxI[k - 4294967296]? = some idx)
    | _ => false)
  | .ldc_w k => (match r with
    | [idx, p] => sWi p (.constant own idx (Int32.ofNat k))
    | _ => false)
  | .lookupswitch _ ps => (ps.toList.zip (ps.toList.drop 1)).all (fun (a, next) => a.1 < next.1)
  | .invokestatic k => if k < 258 then (match r, sM k with
    | [idx, p], some z => mK z == 0 && sWi p (.methodLink own idx (mY z))
    | _, _ => false) else if k = 1003 then (match r with
    | [idx, p, p1, p2, p3] => sWi p (.methodLink own idx arraycopyName) && (sWi p1 (.native arraycopyName) && (sWi p2 (.static arraycopyName) && sWi p3 (.initialized "java/lang/System")))
    | _ => false) else (match r with
    | [idx, p, p1, p2, p3] => decide (1000 ≤ k) && sWi p2 (.initialized "java/lang/Math") && (if k = 1000 then sWi p (.methodLink own idx Lib.Math.max.name) && sWi p1 (.static Lib.Math.max.name) && sWi p3 (.code Lib.Math.max.name Lib.Math.max.code 2 (some .int)) else if k = 1001 then sWi p (.methodLink own idx Lib.Math.min.name) && sWi p1 (.static Lib.Math.min.name) && sWi p3 (.code Lib.Math.min.name Lib.Math.min.code 2 (some .int)) else sWi p (.methodLink own idx Lib.Math.abs.name) && sWi p1 (.static Lib.Math.abs.name) && sWi p3 (.code Lib.Math.abs.name Lib.Math.abs.code 1 (some .int)))
    | _ => false)
  | .invokespecial k => if k < 258 then (match r, sM k with
    | [idx, p], some z => mK z == 2 && sWi p (.methodLink own idx (mY z))
    | [idx], some z => mK z == 2 && decide (Jvm.Cond.methodLinkNest own idx (mY z) RX11 ∈ sNwl)
    | [idx, p, p2, p3], some z => mK z == 1 && sSup own idx p p2 p3 (mY z)
    | [idx, p, p2, p3, p4], some z => mK z == 1 && sSup2 own idx p p2 p3 p4 (mY z)
    | _, _ => false) else (match r with
    | [idx, p, p2, p3] => decide (1000 ≤ k) && sWi p (.methodLink own idx Lib.objectInit) && sWi p2 (.instanceMethod Lib.objectInit) && sWi p3 (.code Lib.objectInit ⟨#[0xb1]⟩ 1 none)
    | _ => false)
  | .invokevirtual k => if k < 258 then (match r, sM k with
    | [idx, p], some z => mK z == 1 && sWi p (.methodLink own idx (mY z)) && (match mW z with
      | [_, _, _, s] => sWi s (.selects (mY z).cls (mY z) (mY z))
      | _ => false)
    | _, _ => false) else (match r with
    | [idx, p] => decide (1000 ≤ k ∧ k < 1006) && sWi p (.methodLink own idx (sFx k))
    | _ => false)
  | .invokeinterface k _ => (match r with
    | [idx, p] => (k == 3000 && sWi p (.methodLink own idx Jvm.Lib.Str.length.name)) || (k == 3001 && sWi p (.methodLink own idx Jvm.Lib.Str.charAt.name))
    | _ => false)
  | _ => true
def sSw (ins : Instr) : Bool := match ins with
  | .tableswitch _ _ _ _ => true
  | .lookupswitch _ _ => true
  | .nop => true
  | _ => false
def sChkE (q : sMt) (e : sEt) : Bool := (match e.2.2.1 with
  | .nop => true
  | _ => decide (decode (mC q) e.1 = .ok (sReal e.2.2.1 e.2.2.2, e.2.1)) && ((sSw e.2.2.1 || decide (e.2.1 = sLen e.2.2.1)) && sExt (mY q).cls (mY q).name e.2.2.1 e.2.2.2))
def sChkM (q : sMt) : Bool := (match mW q with
  | pc :: pi :: pn :: _ => sWi pc (.code (mY q) (mC q) (mN q) (mR q)) && (sWi pn (.initialized (mY q).cls) && (if mK q = 0 then sWi pi (.static (mY q)) else sWi pi (.instanceMethod (mY q))))
  | _ => false) && (Jvm.plainName (mY q).cls && (decide ((mY q).cls ≠ "java/lang/invoke/MethodHandle" ∧ (mY q).cls ≠ "java/lang/invoke/VarHandle" ∧ (parseMethodDescriptor (mY q).desc).map (fun d => d.parameters.length) = some (mA q)) && (decide (mN q ≤ 16) && (decide (mK q = 2 → (mY q).name = "<init>" ∧ mR q = none) && (decide (mK q = 1 → (mY q).name ≠ "<init>") && decide (mK q ≠ 0 → vwCl[mI q]?.map (fun z => z.1) = some (mY q).cls))))))
