section
/-! ===== THE SIMPLE MACHINE: a run of the bytecode over cells that are known by their places ===== -/
abbrev sHp : Type := List va_E
abbrev sLo : Type := List (Option Value)
def sLen : Instr → Nat
  | .aload _ => 2
  | .iload _ => 2
  | .lload _ => 2
  | .istore _ => 2
  | .lstore _ => 2
  | .astore _ => 2
  | .bipush _ => 2
  | .ldc _ => 2
  | .newarray _ => 2
  | .sipush _ => 3
  | .getfield _ => 3
  | .putfield _ => 3
  | .goto _ => 3
  | .if_icmp _ _ => 3
  | .ifCond _ _ => 3
  | .iinc _ _ => 3
  | .invokevirtual _ => 3
  | .invokestatic _ => 3
  | .invokespecial _ => 3
  | .ldc2_w _ => 3
  | .ldc_w _ => 3
  | .new _ => 3
  | .anewarray _ => 3
  | .ifnull _ => 3
  | .ifnonnull _ => 3
  | .getstatic _ => 3
  | .invokeinterface _ _ => 3
  | .multianewarray _ _ => 4
  | _ => 1
/-- stack shapes -/
def s2i (f : Int32 → Int32 → Option Value) (st : List Value) : Option (List Value) := match st with
  | .int y :: .int x :: r => (f x y).map (fun v => v :: r)
  | _ => none
def s2l (f : Int64 → Int64 → Option Value) (st : List Value) : Option (List Value) := match st with
  | .long y :: .long x :: r => (f x y).map (fun v => v :: r)
  | _ => none
def sil (f : Int64 → Int32 → Option Value) (st : List Value) : Option (List Value) := match st with
  | .int y :: .long x :: r => (f x y).map (fun v => v :: r)
  | _ => none
def s1i (f : Int32 → Value) (st : List Value) : Option (List Value) := match st with
  | .int x :: r => some (f x :: r)
  | _ => none
def s1l (f : Int64 → Value) (st : List Value) : Option (List Value) := match st with
  | .long x :: r => some (f x :: r)
  | _ => none
def sPure (ins : Instr) (st : List Value) : Option (List Value) := match ins with
  | .iconst n => some (.int (Int32.ofInt n) :: st)
  | .bipush n => some (.int (Int8.ofInt n).toInt32 :: st)
  | .sipush n => some (.int (Int16.ofInt n).toInt32 :: st)
  | .lconst n => some (.long (Int64.ofNat (n : Nat)) :: st)
  | .aconst_null => some (.null :: st)
  | .iadd => s2i (fun x y => some (.int (x + y))) st
  | .isub => s2i (fun x y => some (.int (x - y))) st
  | .imul => s2i (fun x y => some (.int (x * y))) st
  | .iand => s2i (fun x y => some (.int (x &&& y))) st
  | .ior => s2i (fun x y => some (.int (x ||| y))) st
  | .ixor => s2i (fun x y => some (.int (x ^^^ y))) st
  | .idiv => s2i (fun x y => if y = 0 then none else some (.int (x / y))) st
  | .irem => s2i (fun x y => if y = 0 then none else some (.int (x - x / y * y))) st
  | .ineg => s1i (fun x => .int (-x)) st
  | .ishl => s2i (fun x y => some (.int (x <<< (y &&& 31)))) st
  | .ishr => s2i (fun x y => some (.int (x >>> (y &&& 31)))) st
  | .ladd => s2l (fun x y => some (.long (x + y))) st
  | .lsub => s2l (fun x y => some (.long (x - y))) st
  | .land => s2l (fun x y => some (.long (x &&& y))) st
  | .lor => s2l (fun x y => some (.long (x ||| y))) st
  | .lxor => s2l (fun x y => some (.long (x ^^^ y))) st
  | .lneg => s1l (fun x => .long (-x)) st
  | .lshl => sil (fun x y => some (.long (x <<< (y.toInt64 &&& 63)))) st
  | .lshr => sil (fun x y => some (.long (x >>> (y.toInt64 &&& 63)))) st
  | .lushr => sil (fun x y => some (.long (x.toUInt64 >>> (y.toInt64.toUInt64 &&& Int64.toUInt64 63)).toInt64)) st
  | .lcmp => s2l (fun x y => some (.int (lg_cmp x y))) st
  | .i2l => s1i (fun x => .long x.toInt64) st
  | .l2i => s1l (fun x => .int x.toInt32) st
  | .i2b => s1i (fun x => .int x.toInt8.toInt32) st
  | .i2s => s1i (fun x => .int x.toInt16.toInt32) st
  | .i2c => s1i (fun x => .int (x.toUInt32 % 65536).toInt32) st
  | .dup => (match st with
    | a :: r => if a.category = 1 then some (a :: a :: r) else none
    | _ => none)
  | .dup_x1 => (match st with
    | a :: b :: r => if a.category = 1 ∧ b.category = 1 then some (a :: b :: a :: r) else none
    | _ => none)
  | .dup2 => (match st with
    | a :: b :: r => if a.category = 1 ∧ b.category = 1 then some (a :: b :: a :: b :: r) else none
    | _ => none)
  | .pop => (match st with
    | a :: r => if a.category = 1 then some r else none
    | _ => none)
  | .pop2 => (match st with
    | a :: r => if a.category = 2 then some r else none
    | _ => none)
  | _ => none
/-- locals -/
def sLdI (L : sLo) (i : Nat) (st : List Value) : Option (sLo × List Value) := match L[i]? with
  | some (some (.int x)) => some (L, .int x :: st)
  | _ => none
def sLdL (L : sLo) (i : Nat) (st : List Value) : Option (sLo × List Value) := match L[i]? with
  | some (some (.long x)) => some (L, .long x :: st)
  | _ => none
def sLdA (L : sLo) (i : Nat) (st : List Value) : Option (sLo × List Value) := match L[i]? with
  | some (some (.ref x)) => some (L, .ref x :: st)
  | some (some .null) => some (L, .null :: st)
  | _ => none
def sIsL : Option (Option Value) → Bool
  | some (some (.long _)) => true
  | _ => false
/-- the slot i takes a value; a long whose second half it was is gone -/
def sKill (L : sLo) (i : Nat) : sLo := match i with
  | 0 => L
  | j + 1 => if sIsL L[j]? then L.set j none else L
def sPut (L : sLo) (i : Nat) (v : Value) : sLo := (sKill L i).set i (some v)
def sPutL (L : sLo) (i : Nat) (v : Value) : sLo := (sPut L i v).set (i + 1) none
def sStI (L : sLo) (i : Nat) (st : List Value) : Option (sLo × List Value) := match st with
  | .int x :: r => if i < L.length then some (sPut L i (.int x), r) else none
  | _ => none
def sStL (L : sLo) (i : Nat) (st : List Value) : Option (sLo × List Value) := match st with
  | .long x :: r => if i + 1 < L.length then some (sPutL L i (.long x), r) else none
  | _ => none
def sStA (L : sLo) (i : Nat) (st : List Value) : Option (sLo × List Value) := match st with
  | .ref x :: r => if i < L.length then some (sPut L i (.ref x), r) else none
  | .null :: r => if i < L.length then some (sPut L i .null, r) else none
  | _ => none
def sInc (L : sLo) (i : Nat) (n : Int) (st : List Value) : Option (sLo × List Value) := match L[i]? with
  | some (some (.int x)) => some (sPut L i (.int (x + Int32.ofInt n)), st)
  | _ => none
def sLoc (ins : Instr) (L : sLo) (st : List Value) : Option (sLo × List Value) := match ins with
  | .iload i => sLdI L i st
  | .iload_n i => sLdI L i st
  | .lload i => sLdL L i st
  | .lload_n i => sLdL L i st
  | .aload i => sLdA L i st
  | .aload_n i => sLdA L i st
  | .istore i => sStI L i st
  | .istore_n i => sStI L i st
  | .lstore i => sStL L i st
  | .lstore_n i => sStL L i st
  | .astore i => sStA L i st
  | .astore_n i => sStA L i st
  | .iinc i n => sInc L i n st
  | _ => none
/-- cells: which group a class is of (its fields' places); an object's first fields; a field's type -/
def sGrp (ci : Nat) : Nat := if ci = 3 ∨ ci = 6 ∨ ci = 7 ∨ ci = 8 ∨ ci = 11 ∨ ci = 12 then ci else 2
def sTy (ci : Nat) : Nat → FieldType := match ci with
  | 0 => tyX0
  | 1 => tyX1
  | 2 => tyX2
  | 3 => tyX3
  | 4 => tyX4
  | 5 => tyX5
  | 6 => tyX6
  | 7 => tyX7
  | 8 => tyX8
  | 9 => tyX9
  | 10 => tyX10
  | 11 => tyX11
  | _ => tyX12
def sNF (ci : Nat) : Nat := match vwCl[ci]? with
  | some q => q.2.2
  | none => 0
def sDef (ci : Nat) : List Value := (List.range (sNF ci)).map (fun k => defaultValue (sTy ci k))
/-- the array types by their tags -/
def sAT : List FieldType := [.int, .long, .boolean, .object RX7, .object RX2, .array .int]
def sFit (ty : FieldType) (v : Value) : Bool := match ty, v with
  | .int, .int _ => true
  | .long, .long _ => true
  | .boolean, .int x => decide (x = 0 ∨ x = 1)
  | .object _, .ref _ => true
  | .object _, .null => true
  | .array _, .ref _ => true
  | .array _, .null => true
  | _, _ => false
def sGetF (k : Nat) (st : List Value) (h : sHp) : Option (List Value × sHp) := match st with
  | .ref a :: r => (match h[a]? with
    | some (.inr (ci, fs)) => if sGrp ci = k / 64 then (match fs[k % 64]? with
      | some v => some (v :: r, h)
      | none => none) else none
    | _ => none)
  | _ => none
def sPutF (k : Nat) (st : List Value) (h : sHp) : Option (List Value × sHp) := match st with
  | v :: .ref a :: r => (match h[a]? with
    | some (.inr (ci, fs)) => if sGrp ci = k / 64 ∧ k % 64 < fs.length ∧ sFit (sTy ci (k % 64)) v = true then some (r, h.set a (.inr (ci, fs.set (k % 64) v))) else none
    | _ => none)
  | _ => none
def sIn (i : Int32) (n : Nat) : Prop := ¬ (i < 0 ∨ n ≤ i.toNatClampNeg)
def sLdAI (tag : Nat) (st : List Value) (h : sHp) : Option (List Value × sHp) := match st with
  | .int i :: .ref a :: r => (match h[a]? with
    | some (.inl (t, n, .inl f)) => if t = tag ∧ ¬ (i < 0 ∨ n ≤ i.toNatClampNeg) then some (.int (f i.toNatClampNeg) :: r, h) else none
    | _ => none)
  | _ => none
def sLdAL (st : List Value) (h : sHp) : Option (List Value × sHp) := match st with
  | .int i :: .ref a :: r => (match h[a]? with
    | some (.inl (t, n, .inr (.inl f))) => if t = 1 ∧ ¬ (i < 0 ∨ n ≤ i.toNatClampNeg) then some (.long (f i.toNatClampNeg) :: r, h) else none
    | _ => none)
  | _ => none
def sLdAA (st : List Value) (h : sHp) : Option (List Value × sHp) := match st with
  | .int i :: .ref a :: r => (match h[a]? with
    | some (.inl (t, n, .inr (.inr (.inr (.inr f))))) => if (t = 3 ∨ t = 4 ∨ t = 5) ∧ ¬ (i < 0 ∨ n ≤ i.toNatClampNeg) then some (va_rf (f i.toNatClampNeg) :: r, h) else none
    | _ => none)
  | _ => none
def sStAI (st : List Value) (h : sHp) : Option (List Value × sHp) := match st with
  | .int x :: .int i :: .ref a :: r => (match h[a]? with
    | some (.inl (t, n, .inl f)) => if t = 0 ∧ ¬ (i < 0 ∨ n ≤ i.toNatClampNeg) then some (r, h.set a (.inl (t, n, .inl (upd f i.toNatClampNeg x)))) else none
    | _ => none)
  | _ => none
def sStAZ (st : List Value) (h : sHp) : Option (List Value × sHp) := match st with
  | .int x :: .int i :: .ref a :: r => (match h[a]? with
    | some (.inl (t, n, .inl f)) => if t = 2 ∧ (x = 0 ∨ x = 1) ∧ ¬ (i < 0 ∨ n ≤ i.toNatClampNeg) then some (r, h.set a (.inl (t, n, .inl (upd f i.toNatClampNeg x)))) else none
    | _ => none)
  | _ => none
def sStAL (st : List Value) (h : sHp) : Option (List Value × sHp) := match st with
  | .long x :: .int i :: .ref a :: r => (match h[a]? with
    | some (.inl (t, n, .inr (.inl f))) => if t = 1 ∧ ¬ (i < 0 ∨ n ≤ i.toNatClampNeg) then some (r, h.set a (.inl (t, n, .inr (.inl (vp_updL f i.toNatClampNeg x))))) else none
    | _ => none)
  | _ => none
def sIsObj (t : Nat) (c : Option va_E) : Bool := match c with
  | some (.inr (ci, _)) => (t == 3 && ci == 7) || (t == 4 && (sGrp ci == 2 && decide (ci < 11)))
  | _ => false
def sStAA (st : List Value) (h : sHp) : Option (List Value × sHp) := match st with
  | .ref q :: .int i :: .ref a :: r => (match h[a]? with
    | some (.inl (t, n, .inr (.inr (.inr (.inr f))))) => if sIsObj t h[q]? = true ∧ ¬ (i < 0 ∨ n ≤ i.toNatClampNeg) then some (r, h.set a (.inl (t, n, .inr (.inr (.inr (.inr (va_up f i.toNatClampNeg (some q)))))))) else none
    | _ => none)
  | .null :: .int i :: .ref a :: r => (match h[a]? with
    | some (.inl (t, n, .inr (.inr (.inr (.inr f))))) => if (t = 3 ∨ t = 4) ∧ ¬ (i < 0 ∨ n ≤ i.toNatClampNeg) then some (r, h.set a (.inl (t, n, .inr (.inr (.inr (.inr (va_up f i.toNatClampNeg none))))))) else none
    | _ => none)
  | _ => none
def sALen (st : List Value) (h : sHp) : Option (List Value × sHp) := match st with
  | .ref a :: r => (match h[a]? with
    | some (.inl (t, n, d)) => if t < 6 then some (.int (Int32.ofNat n) :: r, h) else none
    | _ => none)
  | _ => none
def sNew (k : Nat) (st : List Value) (h : sHp) : Option (List Value × sHp) := if k < 13 then some (.ref h.length :: st, h ++ [.inr (k, sDef k)]) else none
def sNewA (ty : ArrayType) (st : List Value) (h : sHp) : Option (List Value × sHp) := match st with
  | .int n :: r => if n < 0 ∨ 100000 < n.toNatClampNeg then none else (match ty with
    | .int => some (.ref h.length :: r, h ++ [.inl (0, n.toNatClampNeg, .inl (fun _ => 0))])
    | .long => some (.ref h.length :: r, h ++ [.inl (1, n.toNatClampNeg, .inr (.inl (fun _ => 0)))])
    | .boolean => some (.ref h.length :: r, h ++ [.inl (2, n.toNatClampNeg, .inl (fun _ => 0))])
    | _ => none)
  | _ => none
def sNewQ (k : Nat) (st : List Value) (h : sHp) : Option (List Value × sHp) := match st with
  | .int n :: r => if n < 0 ∨ 100000 < n.toNatClampNeg ∨ ¬ (k = 3 ∨ k = 4) then none else some (.ref h.length :: r, h ++ [.inl (k, n.toNatClampNeg, .inr (.inr (.inr (.inr (fun _ => none)))))])
  | _ => none
def sNewM (st : List Value) (h : sHp) : Option (List Value × sHp) := match st with
  | .int k :: .int n :: r => if n = 5 ∧ k = 6 then some (.ref h.length :: r, h ++ (.inl (5, 5, .inr (.inr (.inr (.inr (fun j => if j < 5 then some (h.length + 1 + j) else none))))) :: List.replicate 5 (.inl (0, 6, .inl (fun _ => 0))))) else none
  | _ => none
/-- the law's script: the row that no cell is; its place is 1000000 -/
abbrev sX : Type := Option (Nat × (Nat → Int32))
def sScr (X : sX) (ins : Instr) (st : List Value) : Option (List Value) := match X with
  | some (L, xs) => (match ins with
    | .arraylength => (match st with
      | .ref a :: r => if a = 1000000 then some (.int (Int32.ofNat L) :: r) else none
      | _ => none)
    | .iaload => (match st with
      | .int i :: .ref a :: r => if a = 1000000 ∧ ¬ (i < 0 ∨ L ≤ i.toNatClampNeg) then some (.int (xs i.toNatClampNeg) :: r) else none
      | _ => none)
    | _ => none)
  | none => none
/-- the words of the text reader: their places in the pool, their letters; the place of the i-th is 2000000 + i -/
def sTxI : List Nat := [69, 70, 72, 74, 76, 78, 80]
def sTxT : List String := ["size", "soil", "road", "well", "oak", "small", "heir"]
def sTxL : List Nat := [4, 4, 4, 4, 3, 5, 4]
def sTxB : List (List Int32) := [[115, 105, 122, 101], [115, 111, 105, 108], [114, 111, 97, 100], [119, 101, 108, 108], [111, 97, 107], [115, 109, 97, 108, 108], [104, 101, 105, 114]]
def sTxC (i j : Nat) : Int32 := (sTxB.getD i []).getD j 0
/-- System.arraycopy of longs -/
def sCpy (st : List Value) (h : sHp) : Option (List Value × sHp) := match st with
  | [.int n, .int dp, .ref a, .int sp, .ref a0] => (match h[a0]?, h[a]? with
    | some (.inl (1, n0, .inr (.inl f))), some (.inl (1, n1, .inr (.inl g))) => if ¬ sp < 0 ∧ ¬ dp < 0 ∧ ¬ n < 0 ∧ sp.toNatClampNeg + n.toNatClampNeg ≤ n0 ∧ dp.toNatClampNeg + n.toNatClampNeg ≤ n1 then some ([], h.set a (.inl (1, n1, .inr (.inl (va_cpy f g sp.toNatClampNeg dp.toNatClampNeg n.toNatClampNeg))))) else none
    | _, _ => none)
  | _ => none
def sHeap (ins : Instr) (st : List Value) (h : sHp) : Option (List Value × sHp) := match ins with
  | .getfield k => sGetF k st h
  | .putfield k => sPutF k st h
  | .iaload => sLdAI 0 st h
  | .baload => sLdAI 2 st h
  | .laload => sLdAL st h
  | .aaload => sLdAA st h
  | .iastore => sStAI st h
  | .bastore => sStAZ st h
  | .lastore => sStAL st h
  | .aastore => sStAA st h
  | .arraylength => sALen st h
  | .new k => sNew k st h
  | .newarray ty => sNewA ty st h
  | .anewarray k => sNewQ k st h
  | .multianewarray _ _ => sNewM st h
  | .ldc2_w k => some (.long (Int64.ofNat k) :: st, h)
  | .ldc k => if k < 4294967296 then some (.int (Int32.ofNat k) :: st, h) else if k < 4294967303 then some (.ref (2000000 + (k - 4294967296)) :: st, h) else none
  | .ldc_w k => some (.int (Int32.ofNat k) :: st, h)
  | .invokestatic k => if k = 1003 then sCpy st h else none
  | _ => none
/-- jumps -/
def sTgt (pc : Nat) (off : Int) : Option Nat := match (pc : Int) + off with
  | .ofNat t => some t
  | _ => none
def sIf (pc : Nat) (off : Int) (b : Bool) (st : List Value) : Option (Nat × List Value) := match sTgt pc off with
  | some t => some (bif b then t else pc + 3, st)
  | none => none
def sC2 (c : Jvm.ClassFile.Cond) (x y : Int32) : Bool := match c with
  | .eq => decide (x = y)
  | .ne => !decide (x = y)
  | .lt => decide (x < y)
  | .ge => decide (y ≤ x)
  | .gt => decide (y < x)
  | .le => decide (x ≤ y)
def sJmp (ins : Instr) (pc : Nat) (st : List Value) : Option (Nat × List Value) := match ins with
  | .goto off => (sTgt pc off).map (fun t => (t, st))
  | .if_icmp c off => (match st with
    | .int y :: .int x :: r => sIf pc off (sC2 c x y) r
    | _ => none)
  | .ifCond c off => (match st with
    | .int x :: r => sIf pc off (sC2 c x 0) r
    | _ => none)
  | .ifnull off => (match st with
    | .null :: r => sIf pc off true r
    | .ref _ :: r => sIf pc off false r
    | _ => none)
  | .ifnonnull off => (match st with
    | .null :: r => sIf pc off false r
    | .ref _ :: r => sIf pc off true r
    | _ => none)
  | .tableswitch dflt lo hi offs => (match st with
    | .int x :: r => if x.toInt < lo ∨ hi < x.toInt then (sTgt pc dflt).map (fun t => (t, r)) else (match offs[(x.toInt - lo).toNat]? with
      | some off => (sTgt pc off).map (fun t => (t, r))
      | none => none)
    | _ => none)
  | .lookupswitch dflt ps => (match st with
    | .int x :: r => (sTgt pc (Op.lookupswitch.offset ps.toList dflt x.toInt)).map (fun t => (t, r))
    | _ => none)
  | _ => none
def sRet (rt : Option FieldType) (ins : Instr) (st : List Value) : Option (Option Value) := match ins with
  | .ireturn => (match st, rt with
    | [.int v], some ty => if narrow ty (.int v) = .int v then some (some (.int v)) else none
    | _, _ => none)
  | .lreturn => (match st, rt with
    | [.long v], some .long => some (some (.long v))
    | _, _ => none)
  | .areturn => (match st, rt with
    | [.ref v], some (.object _) => some (some (.ref v))
    | [.null], some (.object _) => some (some .null)
    | _, _ => none)
  | .return_ => (match st, rt with
    | [], none => some none
    | _, _ => none)
  | _ => none
/-- calls of the library's, with no frame of ours -/
def sSpec (ins : Instr) (st : List Value) : Option (List Value) := match ins with
  | .invokestatic k => if k = 1000 then s2i (fun x y => some (.int (if x < y then y else x))) st else if k = 1001 then s2i (fun x y => some (.int (if y < x then y else x))) st else if k = 1002 then s1i (fun x => .int (if 0 ≤ x then x else 0 - x)) st else none
  | .invokespecial k => if k = 2000 then (match st with
    | .ref _ :: r => some r
    | _ => none) else none
  | _ => none
/-- how many arguments, whose class: of the methods by number -/
def sPop (n : Nat) (st : List Value) : Option (List Value × List Value) := if n ≤ st.length then some ((st.take n).reverse, st.drop n) else none
def sCal (nA ow : Nat → Nat) (vt : Nat → Nat → Nat) (ins : Instr) (st : List Value) (h : sHp) : Option (Nat × List Value × List Value) := match ins with
  | .invokestatic k => (sPop (nA k) st).map (fun q => (k, q.1, q.2))
  | .invokespecial k => (sPop (nA k) st).bind (fun q => match q.2 with
    | .ref b :: r => (match h[b]? with
      | some (.inr _) => some (k, .ref b :: q.1, r)
      | _ => none)
    | _ => none)
  | .invokevirtual k => if k < 1000 then (sPop (nA k) st).bind (fun q => match q.2 with
    | .ref b :: r => (match h[b]? with
      | some (.inr (ci, _)) => if ci = ow k then some (k, .ref b :: q.1, r) else none
      | _ => none)
    | _ => none) else (sPop (vt k 100) st).bind (fun q => match q.2 with
    | .ref b :: r => (match h[b]? with
      | some (.inr (ci, _)) => if sGrp ci = 2 ∧ ci < 11 then some (vt k ci, .ref b :: q.1, r) else none
      | _ => none)
    | _ => none)
  | .invokeinterface k _ => (sPop (k - 3000) st).bind (fun q => match q.2 with
    | .ref a :: r => if 2000000 ≤ a ∧ a < 2000007 then some (k - 2700, .ref a :: q.1, r) else none
    | _ => none)
  | _ => none
def sKnd (ins : Instr) : Nat := match ins with
  | .iload _ => 1
  | .iload_n _ => 1
  | .lload _ => 1
  | .lload_n _ => 1
  | .aload _ => 1
  | .aload_n _ => 1
  | .istore _ => 1
  | .istore_n _ => 1
  | .lstore _ => 1
  | .lstore_n _ => 1
  | .astore _ => 1
  | .astore_n _ => 1
  | .iinc _ _ => 1
  | .getfield _ => 2
  | .putfield _ => 2
  | .iaload => 2
  | .baload => 2
  | .laload => 2
  | .aaload => 2
  | .iastore => 2
  | .bastore => 2
  | .lastore => 2
  | .aastore => 2
  | .arraylength => 2
  | .new _ => 2
  | .newarray _ => 2
  | .anewarray _ => 2
  | .multianewarray _ _ => 2
  | .ldc2_w _ => 2
  | .ldc _ => 2
  | .ldc_w _ => 2
  | .goto _ => 3
  | .if_icmp _ _ => 3
  | .ifCond _ _ => 3
  | .ifnull _ => 3
  | .ifnonnull _ => 3
  | .tableswitch _ _ _ _ => 3
  | .lookupswitch _ _ => 3
  | .ireturn => 4
  | .lreturn => 4
  | .areturn => 4
  | .return_ => 4
  | .invokestatic k => if k < 1000 then 5 else if k = 1003 then 2 else 6
  | .invokeinterface _ _ => 5
  | .invokespecial k => if k < 1000 then 5 else 6
  | .invokevirtual _ => 5
  | _ => 0
abbrev sOr : Type := Option (Option Value × sHp)
def sRun (X : sX) (F : Nat → Option Instr) (rt : Option FieldType) (cal : Instr → List Value → sHp → Option (Nat × List Value × List Value)) (call : Nat → List Value → sHp → sOr) : Nat → Nat → sLo → List Value → sHp → sOr
  | 0, _, _, _, _ => none
  | n + 1, pc, L, st, h => (match F pc with
    | none => none
    | some ins => (match sKnd ins with
      | 0 => (sPure ins st).bind fun st1 => sRun X F rt cal call n (pc + sLen ins) L st1 h
      | 1 => (sLoc ins L st).bind fun q => sRun X F rt cal call n (pc + sLen ins) q.1 q.2 h
      | 2 => (match sScr X ins st with
        | some st1 => sRun X F rt cal call n (pc + sLen ins) L st1 h
        | none => (sHeap ins st h).bind fun q => sRun X F rt cal call n (pc + sLen ins) L q.1 q.2)
      | 3 => (sJmp ins pc st).bind fun q => sRun X F rt cal call n q.1 L q.2 h
      | 4 => (sRet rt ins st).map fun v => (v, h)
      | 5 => (cal ins st h).bind fun q => if (q.2.2.map (fun v => v.category)).sum ≤ 8 then (call q.1 q.2.1 h).bind fun z => sRun X F rt cal call n (pc + 3) L (z.1.toList ++ q.2.2) z.2 else none
      | _ => if (st.map (fun v => v.category)).sum ≤ 10 then (sSpec ins st).bind fun st1 => sRun X F rt cal call n (pc + 3) L st1 h else none))
/-- the locals with which a method begins -/
def sIniA : List Value → sLo
  | [] => []
  | v :: vs => if v.category = 2 then some v :: none :: sIniA vs else some v :: sIniA vs
def sNd (v : Value) : Bool := match v with
  | .double _ => false
  | _ => true
def sIni (nL : Nat) (as : List Value) : Option sLo := if as.all sNd = true ∧ (sIniA as).length ≤ nL then some (sIniA as ++ List.replicate (nL - (sIniA as).length) none) else none
end
section
/-! ===== the words of the tables, by list and place ===== -/
def sTk (i : Nat) : List Jvm.Cond := match i with
  | 0 => k2_sels lw_privs
  | 1 => tables_1_1.filter goodWord
  | 2 => tables_1_2.filter goodWord
  | 3 => tables_1_3.filter goodWord
  | 4 => tables_1_4.filter goodWord
  | 5 => tables_1_5.filter goodWord
  | 6 => tables_1_6.filter goodWord
  | 7 => tables_1_7.filter goodWord
  | _ => []
def sTB : List Jvm.Cond := sTk 0 ++ (sTk 1 ++ (sTk 2 ++ (sTk 3 ++ (sTk 4 ++ (sTk 5 ++ (sTk 6 ++ sTk 7))))))
def sW (p : Nat) : Option Jvm.Cond := (sTk (p / 1000))[p % 1000]?
theorem sTk_in (i : Nat) (w : Jvm.Cond) (hw : w ∈ sTk i) : w ∈ sTB := by
  unfold sTB
  simp only [List.mem_append]
  match i, hw with
  | 0, hw => exact Or.inl hw
  | 1, hw => exact Or.inr (Or.inl hw)
  | 2, hw => exact Or.inr (Or.inr (Or.inl hw))
  | 3, hw => exact Or.inr (Or.inr (Or.inr (Or.inl hw)))
  | 4, hw => exact Or.inr (Or.inr (Or.inr (Or.inr (Or.inl hw))))
  | 5, hw => exact Or.inr (Or.inr (Or.inr (Or.inr (Or.inr (Or.inl hw)))))
  | 6, hw => exact Or.inr (Or.inr (Or.inr (Or.inr (Or.inr (Or.inr (Or.inl hw))))))
  | 7, hw => exact Or.inr (Or.inr (Or.inr (Or.inr (Or.inr (Or.inr (Or.inr hw))))))
  | n + 8, hw => cases hw
theorem sW_in {p : Nat} {w : Jvm.Cond} (h : sW p = some w) : w ∈ sTB := sTk_in _ w (List.mem_of_getElem? h)
theorem sTB_cases {P : Jvm.Cond → Prop} (h0 : ∀ w ∈ k2_sels lw_privs, P w) (h1 : ∀ w ∈ tables_1, goodWord w = true → P w) : ∀ w ∈ sTB, P w := by
  intro w hw
  have hh : w ∈ k2_sels lw_privs ∨ (w ∈ tables_1 ∧ goodWord w = true) := by
    unfold sTB at hw
    simp only [List.mem_append] at hw
    unfold tables_1
    simp only [List.mem_append]
    rcases hw with hw | hw | hw | hw | hw | hw | hw | hw
    · exact Or.inl hw
    all_goals
      have h2 := List.mem_filter.mp hw
      exact Or.inr ⟨by simp [h2.1], h2.2⟩
  rcases hh with h | h
  · exact h0 w h
  · exact h1 w h.1 h.2
theorem sTB_good : ∀ w ∈ sTB, goodWord w = true := sTB_cases (fun w hw => by
  obtain ⟨q, -, rfl⟩ := List.mem_map.mp hw
  rfl) (fun w _ h => h)
theorem sTB_lw : ∀ w ∈ sTB, w ∈ lw_tbl := sTB_cases (fun w hw => List.mem_append_left _ hw) (fun w hw _ => List.mem_append_right _ hw)
theorem sTB_in {ws : List Jvm.Cond} (h : ∀ w ∈ ws, w ∈ sTB) : GoodIn sTB ws := fun w hw => ⟨h w hw, good_of_word (sTB_good w (h w hw))⟩
/-! ===== what the places stand for ===== -/
def sAd (base : Nat) (b : Nat → Nat) (k : Nat) : Nat := if 1000000 ≤ k then b k else base + k
def rV (σ : Nat → Nat) : Value → Value
  | .ref k => .ref (σ k)
  | v => v
def rA (σ : Nat → Nat) (a : vp_A) : vp_A := match a with
  | (n, .inr (.inr (.inr (.inr f)))) => (n, .inr (.inr (.inr (.inr (fun j => (f j).map σ)))))
  | (n, x) => (n, x)
def rC (σ : Nat → Nat) (dA : Nat → ClassId) (c : va_E) : va_E := match c with
  | .inl (t, a) => .inl (dA t, rA σ a)
  | .inr (ci, fs) => .inr (ci, fs.map (rV σ))
def rW (σ : Nat → Nat) (dA : Nat → ClassId) (h : sHp) : va_W := h.mapIdx (fun k c => (σ k, rC σ dA c))
abbrev rS (σ : Nat → Nat) (st : List Value) : List Value := st.map (rV σ)
theorem rV_cat (σ : Nat → Nat) (v : Value) : (rV σ v).category = v.category := by cases v <;> rfl
theorem rV_rf (σ : Nat → Nat) (r : Option Nat) : rV σ (va_rf r) = va_rf (r.map σ) := by cases r <;> rfl
theorem rW_get (σ : Nat → Nat) (dA : Nat → ClassId) (h : sHp) (k : Nat) : (rW σ dA h)[k]? = (h[k]?).map (fun c => (σ k, rC σ dA c)) := by
  unfold rW
  rw [List.getElem?_mapIdx]
theorem rW_at {σ : Nat → Nat} {dA : Nat → ClassId} {h : sHp} {k : Nat} {c : va_E} (hk : h[k]? = some c) : (rW σ dA h)[k]? = some (σ k, rC σ dA c) := by rw [rW_get, hk]; rfl
theorem rW_len (σ : Nat → Nat) (dA : Nat → ClassId) (h : sHp) : (rW σ dA h).length = h.length := by unfold rW; rw [List.length_mapIdx]
theorem rW_set (σ : Nat → Nat) (dA : Nat → ClassId) (h : sHp) (k : Nat) (c : va_E) : (rW σ dA h).set k (σ k, rC σ dA c) = rW σ dA (h.set k c) := by
  apply List.ext_getElem?
  intro i
  rw [rW_get, List.getElem?_set, List.getElem?_set, rW_len]
  by_cases e : k = i
  · subst e
    by_cases hl : k < h.length
    · simp [hl]
    · simp [hl]
  · simp [e, rW_get]
theorem rW_app (σ : Nat → Nat) (dA : Nat → ClassId) (h : sHp) (c : va_E) : rW σ dA (h ++ [c]) = rW σ dA h ++ [(σ h.length, rC σ dA c)] := by
  unfold rW
  rw [List.mapIdx_concat]
theorem rW_apart {base : Nat} {b : Nat → Nat} {dA : Nat → ClassId} {h : sHp} (hl : h.length ≤ 1000000) : va_D (fun q => base ≤ q) (rW (sAd base b) dA h) := by
  have key : ∀ (i : Nat) (p : Nat × va_E), (rW (sAd base b) dA h)[i]? = some p → p.1 = base + i := by
    intro i p hi
    rw [rW_get] at hi
    cases hc : h[i]? with
    | none => rw [hc] at hi; cases hi
    | some c =>
      rw [hc] at hi
      cases hi
      have hlt := (List.getElem?_eq_some_iff.mp hc).1
      show sAd base b i = base + i
      unfold sAd
      rw [if_neg (by omega)]
  refine ⟨fun i j p q hi hj hpq => ?_, fun k q hk => ?_⟩
  · have h1 := key i p hi
    have h2 := key j q hj
    omega
  · have h1 := key k q hk
    show base ≤ q.1
    omega
theorem sAd_in {base : Nat} {b : Nat → Nat} {k : Nat} (h : k < 1000000) : sAd base b k = base + k := by unfold sAd; rw [if_neg (by omega)]
/-- sizes -/
def sSz (c : va_E) : Nat := match c with
  | .inl (_, a) => a.1
  | .inr (_, fs) => fs.length
def sSl : sHp → Nat
  | [] => 0
  | c :: t => sSz c + sSl t
theorem sSl_app (h g : sHp) : sSl (h ++ g) = sSl h + sSl g := by
  induction h with
  | nil => simp [sSl]
  | cons c t ih => rw [List.cons_append, sSl, ih, sSl]; omega
theorem sSl_set {h : sHp} {k : Nat} {c c0 : va_E} (hk : h[k]? = some c0) (hs : sSz c = sSz c0) : sSl (h.set k c) = sSl h := by
  induction h generalizing k with
  | nil => cases hk
  | cons a t ih =>
    cases k with
    | zero =>
      rw [List.getElem?_cons_zero] at hk
      have e := Option.some.inj hk
      show sSz c + sSl t = sSz a + sSl t
      rw [hs, e]
    | succ k =>
      rw [List.getElem?_cons_succ] at hk
      show sSz a + sSl (t.set k c) = sSz a + sSl t
      rw [ih hk]
/-! ===== locals ===== -/
def sEnt (σ : Nat → Nat) (L : sLo) : List (Nat × Value) := (List.range L.length).filterMap (fun i => match L[i]? with
  | some (some v) => some (i, rV σ v)
  | _ => none)
theorem sEnt_mem {σ : Nat → Nat} {L : sLo} {q : Nat × Value} : q ∈ sEnt σ L ↔ ∃ v, L[q.1]? = some (some v) ∧ q.2 = rV σ v := by
  unfold sEnt
  rw [List.mem_filterMap]
  constructor
  · rintro ⟨i, hi, h⟩
    cases hL : L[i]? with
    | none => rw [hL] at h; cases h
    | some o =>
      cases o with
      | none => rw [hL] at h; cases h
      | some v =>
        rw [hL] at h
        cases h
        exact ⟨v, hL, rfl⟩
  · rintro ⟨v, h1, h2⟩
    refine ⟨q.1, List.mem_range.mpr (List.getElem?_eq_some_iff.mp h1).1, ?_⟩
    rw [h1]
    show some (q.1, rV σ v) = some q
    rw [← h2]
theorem lv_mono {ls : Array Slot} {n : Nat} {l l' : List (Nat × Value)} (h : lv_has ls n l) (hs : ∀ q ∈ l', q ∈ l) : lv_has ls n l' := ⟨h.1, h.2.1, fun q hq => h.2.2 q (hs q hq)⟩
theorem sEnt_at {σ : Nat → Nat} {L : sLo} {ls : Array Slot} {n i : Nat} {v : Value} (h : lv_has ls n (sEnt σ L)) (hv : L[i]? = some (some v)) : ls[i]? = some (.val (rV σ v)) := h.2.2 (i, rV σ v) (sEnt_mem.mpr ⟨v, hv, rfl⟩)
theorem sKill_get (L : sLo) (i j : Nat) : (sKill L i)[j]? = if j + 1 = i ∧ sIsL L[j]? = true then some none else L[j]? := by
  unfold sKill
  cases i with
  | zero => simp
  | succ k =>
    show (if sIsL L[k]? = true then L.set k none else L)[j]? = _
    by_cases e : j = k
    · subst e
      by_cases hL : sIsL L[j]? = true
      · rw [if_pos hL, if_pos ⟨rfl, hL⟩, List.getElem?_set_self]
        cases hj : L[j]? with
        | none => rw [hj] at hL; cases hL
        | some o => exact (List.getElem?_eq_some_iff.mp hj).1
      · rw [if_neg hL, if_neg (fun q => hL q.2)]
    · rw [if_neg (show ¬ (j + 1 = k + 1 ∧ _) from fun q => e (by omega))]
      split
      · rw [List.getElem?_set_ne (fun q => e q.symm)]
      · rfl
theorem sKill_len (L : sLo) (i : Nat) : (sKill L i).length = L.length := by
  unfold sKill
  cases i with
  | zero => rfl
  | succ k => show (if _ then L.set k none else L).length = _; split <;> simp
theorem sPut_len (L : sLo) (i : Nat) (v : Value) : (sPut L i v).length = L.length := by unfold sPut; rw [List.length_set, sKill_len]
theorem sPutL_len (L : sLo) (i : Nat) (v : Value) : (sPutL L i v).length = L.length := by unfold sPutL; rw [List.length_set, sPut_len]
theorem sIsL_cat {o : Option (Option Value)} {v : Value} (σ : Nat → Nat) (h : o = some (some v)) (hL : ¬ sIsL o = true) (hd : ∀ x, v ≠ .double x) : ¬ (rV σ v).category = 2 := by
  subst h
  cases v <;> first | (exact fun q => hL rfl) | (exact fun q => hd _ rfl) | (intro q; cases q)
def sNoD (L : sLo) : Prop := ∀ (i : Nat) (x : UInt64), L[i]? ≠ some (some (.double x))
theorem sNoD_put {L : sLo} (h : sNoD L) (i : Nat) {v : Value} (hv : ∀ x, v ≠ .double x) : sNoD (sPut L i v) := by
  intro j x hj
  unfold sPut at hj
  rw [List.getElem?_set] at hj
  split at hj
  · split at hj
    · cases hj; exact hv _ rfl
    · cases hj
  · rw [sKill_get] at hj
    split at hj
    · cases hj
    · exact h j x hj
theorem sNoD_putL {L : sLo} (h : sNoD L) (i : Nat) {v : Value} (hv : ∀ x, v ≠ .double x) : sNoD (sPutL L i v) := by
  intro j x hj
  unfold sPutL at hj
  rw [List.getElem?_set] at hj
  split at hj
  · split at hj
    · cases hj
    · cases hj
  · exact sNoD_put h i hv j x hj
theorem sPut_has {σ : Nat → Nat} {L : sLo} {ls : Array Slot} {n i : Nat} {v : Value} (hd : sNoD L) (h : lv_has ls n ((i, rV σ v) :: (sEnt σ L).filter (fun q => !(q.1 == i) && !(q.1 + 1 == i && q.2.category == 2)))) : lv_has ls n (sEnt σ (sPut L i v)) := by
  refine lv_mono h fun q hq => ?_
  obtain ⟨w, h1, h2⟩ := sEnt_mem.mp hq
  unfold sPut at h1
  rw [List.getElem?_set] at h1
  split at h1
  · rename_i e
    split at h1
    · cases h1
      have : q = (i, rV σ v) := by rw [← h2, e]
      rw [this]
      exact List.mem_cons_self
    · cases h1
  · rename_i e
    rw [sKill_get] at h1
    split at h1
    · cases h1
    · rename_i hk
      refine List.mem_cons_of_mem _ (List.mem_filter.mpr ⟨sEnt_mem.mpr ⟨w, h1, h2⟩, ?_⟩)
      have e1 : (q.1 == i) = false := by rw [beq_eq_false_iff_ne]; exact fun z => e z.symm
      rw [e1]
      by_cases e2 : q.1 + 1 = i
      · have hL : ¬ sIsL L[q.1]? = true := fun z => hk ⟨e2, z⟩
        have hc := sIsL_cat σ h1 hL (fun x z => hd q.1 x (by rw [h1, z]))
        rw [← h2] at hc
        have e3 : (q.2.category == 2) = false := by rw [beq_eq_false_iff_ne]; exact hc
        rw [e3]
        simp
      · have e3 : (q.1 + 1 == i) = false := by rw [beq_eq_false_iff_ne]; exact e2
        rw [e3]
        simp
theorem sPutL_has {σ : Nat → Nat} {L : sLo} {ls : Array Slot} {n i : Nat} {v : Value} (hd : sNoD L) (h : lv_has ls n ((i, rV σ v) :: (sEnt σ L).filter (fun q => !(q.1 == i) && (!(q.1 == i + 1) && !(q.1 + 1 == i && q.2.category == 2))))) : lv_has ls n (sEnt σ (sPutL L i v)) := by
  refine lv_mono h fun q hq => ?_
  obtain ⟨w, h1, h2⟩ := sEnt_mem.mp hq
  unfold sPutL at h1
  rw [List.getElem?_set] at h1
  split at h1
  · split at h1
    · cases h1
    · cases h1
  · rename_i e0
    unfold sPut at h1
    rw [List.getElem?_set] at h1
    split at h1
    · rename_i e
      split at h1
      · cases h1
        have : q = (i, rV σ v) := by rw [← h2, e]
        rw [this]
        exact List.mem_cons_self
      · cases h1
    · rename_i e
      rw [sKill_get] at h1
      split at h1
      · cases h1
      · rename_i hk
        refine List.mem_cons_of_mem _ (List.mem_filter.mpr ⟨sEnt_mem.mpr ⟨w, h1, h2⟩, ?_⟩)
        have e1 : (q.1 == i) = false := by rw [beq_eq_false_iff_ne]; exact fun z => e z.symm
        have e4 : (q.1 == i + 1) = false := by rw [beq_eq_false_iff_ne]; exact fun z => e0 z.symm
        rw [e1, e4]
        by_cases e2 : q.1 + 1 = i
        · have hL : ¬ sIsL L[q.1]? = true := fun z => hk ⟨e2, z⟩
          have hc := sIsL_cat σ h1 hL (fun x z => hd q.1 x (by rw [h1, z]))
          rw [← h2] at hc
          have e3 : (q.2.category == 2) = false := by rw [beq_eq_false_iff_ne]; exact hc
          rw [e3]
          simp
        · have e3 : (q.1 + 1 == i) = false := by rw [beq_eq_false_iff_ne]; exact e2
          rw [e3]
          simp
end
section
/-! ===== the machine does what the simple one does: stack and locals ===== -/
section SND
variable {p : Program} {l : Launch} {e : Env} {R : Room} {s : State} {m : MethodId} {args : Array Value} {below : List Frame} {meth : Method} {c : Code} {H : Heap} {locs : List Loc} {cells slots : Nat} {Q : State → Prop} {cc : ByteArray} {pc : Nat} {ls : Array Slot} {σ : Nat → Nat}
theorem s2i_of {f : Int32 → Int32 → Option Value} {st st' : List Value} (h : s2i f st = some st') : ∃ x y v r, st = .int y :: .int x :: r ∧ f x y = some v ∧ st' = v :: r := by
  unfold s2i at h
  split at h
  · obtain ⟨v, h1, h2⟩ := Option.map_eq_some_iff.mp h
    exact ⟨_, _, v, _, rfl, h1, h2.symm⟩
  · cases h
theorem s2l_of {f : Int64 → Int64 → Option Value} {st st' : List Value} (h : s2l f st = some st') : ∃ x y v r, st = .long y :: .long x :: r ∧ f x y = some v ∧ st' = v :: r := by
  unfold s2l at h
  split at h
  · obtain ⟨v, h1, h2⟩ := Option.map_eq_some_iff.mp h
    exact ⟨_, _, v, _, rfl, h1, h2.symm⟩
  · cases h
theorem sil_of {f : Int64 → Int32 → Option Value} {st st' : List Value} (h : sil f st = some st') : ∃ x y v r, st = .int y :: .long x :: r ∧ f x y = some v ∧ st' = v :: r := by
  unfold sil at h
  split at h
  · obtain ⟨v, h1, h2⟩ := Option.map_eq_some_iff.mp h
    exact ⟨_, _, v, _, rfl, h1, h2.symm⟩
  · cases h
theorem s1i_of {f : Int32 → Value} {st st' : List Value} (h : s1i f st = some st') : ∃ x r, st = .int x :: r ∧ st' = f x :: r := by
  unfold s1i at h
  split at h
  · cases h; exact ⟨_, _, rfl, rfl⟩
  · cases h
theorem s1l_of {f : Int64 → Value} {st st' : List Value} (h : s1l f st = some st') : ∃ x r, st = .long x :: r ∧ st' = f x :: r := by
  unfold s1l at h
  split at h
  · cases h; exact ⟨_, _, rfl, rfl⟩
  · cases h
set_option maxHeartbeats 4000000 in
theorem s_pure (hx : p.tables.exec = Jvm.exec) (hb : c.code = cc) {ins : Instr} {st st' : List Value} (h : sPure ins st = some st') (hdg : decode cc pc = .ok (ins, sLen ins))
    (kk : W p l e R s m args below meth c H locs cells slots Q (F0 m (pc + sLen ins) ls (rS σ st'))) : W p l e R s m args below meth c H locs cells slots Q (F0 m pc ls (rS σ st)) := by
  unfold sPure at h
  split at h
  case h_1 n => cases h; exact lv_iconst hx hb hdg rfl kk
  case h_2 n => cases h; exact lv_bipush hx hb hdg rfl kk
  case h_3 n => cases h; exact lv_sipush hx hb hdg rfl kk
  case h_4 n => cases h; exact lv_lconst hx hb hdg rfl kk
  case h_5 => cases h; exact lv_null hx hb hdg kk
  case h_6 => obtain ⟨x, y, v, r, rfl, h1, rfl⟩ := s2i_of h; cases h1; exact lv_iadd hx hb hdg kk
  case h_7 => obtain ⟨x, y, v, r, rfl, h1, rfl⟩ := s2i_of h; cases h1; exact lv_isub hx hb hdg kk
  case h_8 => obtain ⟨x, y, v, r, rfl, h1, rfl⟩ := s2i_of h; cases h1; exact lv_imul hx hb hdg kk
  case h_9 => obtain ⟨x, y, v, r, rfl, h1, rfl⟩ := s2i_of h; cases h1; exact lv_iand hx hb hdg kk
  case h_10 => obtain ⟨x, y, v, r, rfl, h1, rfl⟩ := s2i_of h; cases h1; exact lv_ior hx hb hdg kk
  case h_11 => obtain ⟨x, y, v, r, rfl, h1, rfl⟩ := s2i_of h; cases h1; exact lv_ixor hx hb hdg kk
  case h_12 =>
    obtain ⟨x, y, v, r, rfl, h1, rfl⟩ := s2i_of h
    by_cases h0 : y = 0
    · rw [if_pos h0] at h1; cases h1
    · rw [if_neg h0] at h1; cases h1; exact lv_idiv hx hb hdg h0 kk
  case h_13 =>
    obtain ⟨x, y, v, r, rfl, h1, rfl⟩ := s2i_of h
    by_cases h0 : y = 0
    · rw [if_pos h0] at h1; cases h1
    · rw [if_neg h0] at h1; cases h1; exact lv_irem hx hb hdg h0 kk
  case h_14 => obtain ⟨x, r, rfl, rfl⟩ := s1i_of h; exact lv_ineg hx hb hdg kk
  case h_15 => obtain ⟨x, y, v, r, rfl, h1, rfl⟩ := s2i_of h; cases h1; exact lv_ishl hx hb hdg kk
  case h_16 => obtain ⟨x, y, v, r, rfl, h1, rfl⟩ := s2i_of h; cases h1; exact lv_ishr hx hb hdg kk
  case h_17 => obtain ⟨x, y, v, r, rfl, h1, rfl⟩ := s2l_of h; cases h1; exact lv_ladd hx hb hdg kk
  case h_18 => obtain ⟨x, y, v, r, rfl, h1, rfl⟩ := s2l_of h; cases h1; exact lv_lsub hx hb hdg kk
  case h_19 => obtain ⟨x, y, v, r, rfl, h1, rfl⟩ := s2l_of h; cases h1; exact lv_land hx hb hdg kk
  case h_20 => obtain ⟨x, y, v, r, rfl, h1, rfl⟩ := s2l_of h; cases h1; exact lv_lor hx hb hdg kk
  case h_21 => obtain ⟨x, y, v, r, rfl, h1, rfl⟩ := s2l_of h; cases h1; exact lv_lxor hx hb hdg kk
  case h_22 => obtain ⟨x, r, rfl, rfl⟩ := s1l_of h; exact lv_lneg hx hb hdg kk
  case h_23 => obtain ⟨x, y, v, r, rfl, h1, rfl⟩ := sil_of h; cases h1; exact lv_lshl hx hb hdg rfl kk
  case h_24 => obtain ⟨x, y, v, r, rfl, h1, rfl⟩ := sil_of h; cases h1; exact lv_lshr hx hb hdg rfl kk
  case h_25 => obtain ⟨x, y, v, r, rfl, h1, rfl⟩ := sil_of h; cases h1; exact lv_lushr hx hb hdg rfl kk
  case h_26 => obtain ⟨x, y, v, r, rfl, h1, rfl⟩ := s2l_of h; cases h1; exact W.lcmp hx hb hdg kk
  case h_27 => obtain ⟨x, r, rfl, rfl⟩ := s1i_of h; exact lv_i2l hx hb hdg rfl kk
  case h_28 => obtain ⟨x, r, rfl, rfl⟩ := s1l_of h; exact lv_l2i hx hb hdg rfl kk
  case h_29 => obtain ⟨x, r, rfl, rfl⟩ := s1i_of h; exact lv_i2b hx hb hdg rfl kk
  case h_30 => obtain ⟨x, r, rfl, rfl⟩ := s1i_of h; exact lv_i2s hx hb hdg rfl kk
  case h_31 => obtain ⟨x, r, rfl, rfl⟩ := s1i_of h; exact lv_i2c hx hb hdg rfl kk
  case h_32 =>
    split at h
    · split at h
      · rename_i hc
        cases h
        exact lv_dup hx hb hdg ((rV_cat σ _).trans hc) kk
      · cases h
    · cases h
  case h_33 =>
    split at h
    · split at h
      · rename_i hc
        cases h
        exact lv_dup_x1 hx hb hdg ((rV_cat σ _).trans hc.1) ((rV_cat σ _).trans hc.2) kk
      · cases h
    · cases h
  case h_34 =>
    split at h
    · split at h
      · rename_i hc
        cases h
        exact lv_dup2_11 hx hb hdg ((rV_cat σ _).trans hc.1) ((rV_cat σ _).trans hc.2) kk
      · cases h
    · cases h
  case h_35 =>
    split at h
    · split at h
      · rename_i hc
        cases h
        exact lv_pop hx hb hdg ((rV_cat σ _).trans hc) kk
      · cases h
    · cases h
  case h_36 =>
    split at h
    · split at h
      · rename_i hc
        cases h
        exact lv_pop2_2 hx hb hdg ((rV_cat σ _).trans hc) kk
      · cases h
    · cases h
  case h_37 => cases h
theorem sLdI_of {L L' : sLo} {i : Nat} {st st' : List Value} (h : sLdI L i st = some (L', st')) : ∃ x, L[i]? = some (some (.int x)) ∧ L' = L ∧ st' = .int x :: st := by
  unfold sLdI at h
  split at h
  · rename_i x hx; cases h; exact ⟨x, hx, rfl, rfl⟩
  · cases h
theorem sLdL_of {L L' : sLo} {i : Nat} {st st' : List Value} (h : sLdL L i st = some (L', st')) : ∃ x, L[i]? = some (some (.long x)) ∧ L' = L ∧ st' = .long x :: st := by
  unfold sLdL at h
  split at h
  · rename_i x hx; cases h; exact ⟨x, hx, rfl, rfl⟩
  · cases h
theorem sLdA_of {L L' : sLo} {i : Nat} {st st' : List Value} (h : sLdA L i st = some (L', st')) : (∃ x, L[i]? = some (some (.ref x)) ∧ L' = L ∧ st' = .ref x :: st) ∨ (L[i]? = some (some .null) ∧ L' = L ∧ st' = .null :: st) := by
  unfold sLdA at h
  split at h
  · rename_i x hx; cases h; exact Or.inl ⟨x, hx, rfl, rfl⟩
  · rename_i hx; cases h; exact Or.inr ⟨hx, rfl, rfl⟩
  · cases h
/-- the locals hold what the simple ones say -/
def sLs (σ : Nat → Nat) (nL : Nat) (L : sLo) (ls : Array Slot) : Prop := L.length = nL ∧ sNoD L ∧ lv_has ls nL (sEnt σ L)
set_option maxHeartbeats 4000000 in
theorem s_loc (hx : p.tables.exec = Jvm.exec) (hb : c.code = cc) {ins : Instr} {nL : Nat} {L L' : sLo} {st st' : List Value} (hl : sLs σ nL L ls) (h : sLoc ins L st = some (L', st')) (hdg : decode cc pc = .ok (ins, sLen ins))
    (kk : ∀ ls' : Array Slot, sLs σ nL L' ls' → W p l e R s m args below meth c H locs cells slots Q (F0 m (pc + sLen ins) ls' (rS σ st'))) : W p l e R s m args below meth c H locs cells slots Q (F0 m pc ls (rS σ st)) := by
  obtain ⟨hn, hd, hv⟩ := hl
  unfold sLoc at h
  split at h
  case h_1 i => obtain ⟨x, h1, rfl, rfl⟩ := sLdI_of h; exact lv_iload hx hb hdg (sEnt_at hv h1) (kk _ ⟨hn, hd, hv⟩)
  case h_2 i => obtain ⟨x, h1, rfl, rfl⟩ := sLdI_of h; exact lv_iload_n hx hb hdg rfl (sEnt_at hv h1) (kk _ ⟨hn, hd, hv⟩)
  case h_3 i => obtain ⟨x, h1, rfl, rfl⟩ := sLdL_of h; exact lv_lload hx hb hdg (sEnt_at hv h1) (kk _ ⟨hn, hd, hv⟩)
  case h_4 i => obtain ⟨x, h1, rfl, rfl⟩ := sLdL_of h; exact lv_lload_n hx hb hdg rfl (sEnt_at hv h1) (kk _ ⟨hn, hd, hv⟩)
  case h_5 i =>
    rcases sLdA_of h with ⟨x, h1, rfl, rfl⟩ | ⟨h1, rfl, rfl⟩
    · exact lv_aload hx hb hdg (sEnt_at hv h1) (kk _ ⟨hn, hd, hv⟩)
    · exact lv_aloadN hx hb hdg (sEnt_at hv h1) (kk _ ⟨hn, hd, hv⟩)
  case h_6 i =>
    rcases sLdA_of h with ⟨x, h1, rfl, rfl⟩ | ⟨h1, rfl, rfl⟩
    · exact lv_aload_n hx hb hdg rfl (sEnt_at hv h1) (kk _ ⟨hn, hd, hv⟩)
    · exact lv_aload_nN hx hb hdg rfl (sEnt_at hv h1) (kk _ ⟨hn, hd, hv⟩)
  case h_7 i =>
    unfold sStI at h
    split at h
    · split at h
      · rename_i hi
        cases h
        exact lv_istore hx hb hdg hv (hn ▸ hi) rfl fun ls' h' => kk ls' ⟨(sPut_len _ _ _).trans hn, sNoD_put hd _ (fun _ q => by cases q), sPut_has hd h'⟩
      · cases h
    · cases h
  case h_8 i =>
    unfold sStI at h
    split at h
    · split at h
      · rename_i hi
        cases h
        exact lv_istore_n hx hb hdg rfl hv (hn ▸ hi) rfl fun ls' h' => kk ls' ⟨(sPut_len _ _ _).trans hn, sNoD_put hd _ (fun _ q => by cases q), sPut_has hd h'⟩
      · cases h
    · cases h
  case h_9 i =>
    unfold sStL at h
    split at h
    · split at h
      · rename_i hi
        cases h
        exact lv_lstore hx hb hdg hv (hn ▸ hi) rfl fun ls' h' => kk ls' ⟨(sPutL_len _ _ _).trans hn, sNoD_putL hd _ (fun _ q => by cases q), sPutL_has hd h'⟩
      · cases h
    · cases h
  case h_10 i =>
    unfold sStL at h
    split at h
    · split at h
      · rename_i hi
        cases h
        exact lv_lstore_n hx hb hdg rfl hv (hn ▸ hi) rfl fun ls' h' => kk ls' ⟨(sPutL_len _ _ _).trans hn, sNoD_putL hd _ (fun _ q => by cases q), sPutL_has hd h'⟩
      · cases h
    · cases h
  case h_11 i =>
    unfold sStA at h
    split at h
    · split at h
      · rename_i hi
        cases h
        exact lv_astore hx hb hdg hv (hn ▸ hi) rfl fun ls' h' => kk ls' ⟨(sPut_len _ _ _).trans hn, sNoD_put hd _ (fun _ q => by cases q), sPut_has (v := .ref _) hd h'⟩
      · cases h
    · split at h
      · rename_i hi
        cases h
        exact lv_astoreN hx hb hdg hv (hn ▸ hi) rfl fun ls' h' => kk ls' ⟨(sPut_len _ _ _).trans hn, sNoD_put hd _ (fun _ q => by cases q), sPut_has (v := .null) hd h'⟩
      · cases h
    · cases h
  case h_12 i =>
    unfold sStA at h
    split at h
    · split at h
      · rename_i hi
        cases h
        exact lv_astore_n hx hb hdg rfl hv (hn ▸ hi) rfl fun ls' h' => kk ls' ⟨(sPut_len _ _ _).trans hn, sNoD_put hd _ (fun _ q => by cases q), sPut_has (v := .ref _) hd h'⟩
      · cases h
    · split at h
      · rename_i hi
        cases h
        exact lv_astore_nN hx hb hdg rfl hv (hn ▸ hi) rfl fun ls' h' => kk ls' ⟨(sPut_len _ _ _).trans hn, sNoD_put hd _ (fun _ q => by cases q), sPut_has (v := .null) hd h'⟩
      · cases h
    · cases h
  case h_13 i n =>
    unfold sInc at h
    split at h
    · rename_i x h1
      cases h
      have hi : i < nL := by rw [← hn]; exact (List.getElem?_eq_some_iff.mp h1).1
      obtain ⟨k, hk⟩ := List.getElem?_of_mem (sEnt_mem (σ := σ) (L := L) (q := (i, .int x)) |>.mpr ⟨_, h1, rfl⟩)
      exact lv_iinc hx hb hdg hv hk rfl hi rfl fun ls' h' => kk ls' ⟨(sPut_len _ _ _).trans hn, sNoD_put hd _ (fun _ q => by cases q), sPut_has (v := .int _) hd h'⟩
    · cases h
  case h_14 => cases h
end SND
end
section
/-! ===== each row of cells: its fields are among the words, their types, their names ===== -/
theorem sU0 : u_ws RX0 TX0 6 = ([2163, 2164, 2165, 2166, 2167, 2168] : List Nat).filterMap sW := by decide +kernel
theorem sU1 : u_ws RX1 TX1 6 = ([2137, 2138, 2139, 2140, 2141, 2142] : List Nat).filterMap sW := by decide +kernel
theorem sU2 : u_ws RX2 TX2 6 = ([2198, 2199, 2200, 2201, 2202, 2203] : List Nat).filterMap sW := by decide +kernel
theorem sU3 : u_ws RX3 TX3 17 = ([1102, 1104, 1106, 1108, 1110, 1112, 1114, 1116, 1118, 1120, 1122, 1124, 1126, 1128, 1130, 1132, 1134] : List Nat).filterMap sW := by decide +kernel
theorem sU4 : u_ws RX4 TX4 6 = ([2176, 2177, 2178, 2179, 2180, 2181] : List Nat).filterMap sW := by decide +kernel
theorem sU5 : u_ws RX5 TX5 6 = ([2150, 2151, 2152, 2153, 2154, 2155] : List Nat).filterMap sW := by decide +kernel
theorem sU6 : u_ws RX6 TX6 4 = ([3106, 3108, 3110, 3112] : List Nat).filterMap sW := by decide +kernel
theorem sU7 : u_ws RX7 TX7 3 = ([1043, 1045, 1047] : List Nat).filterMap sW := by decide +kernel
theorem sU8 : u_ws RX8 TX8 10 = ([1158, 1160, 1162, 1164, 1166, 1168, 1170, 1172, 1174, 1176] : List Nat).filterMap sW := by decide +kernel
theorem sU9 : u_ws RX9 TX9 6 = ([2118, 2120, 2122, 2124, 2126, 2128] : List Nat).filterMap sW := by decide +kernel
theorem sU10 : u_ws RX10 TX10 6 = ([2189, 2190, 2191, 2192, 2193, 2194] : List Nat).filterMap sW := by decide +kernel
theorem sU11 : u_ws RX11 TX11 11 = ([1190, 1192, 1194, 1196, 1198, 1200, 1202, 1204, 1206, 1208, 1210] : List Nat).filterMap sW := by decide +kernel
theorem sU12 : u_ws RX12 TX12 38 = ([5217, 5219, 5221, 5223, 5225, 5227, 5229, 5231, 5233, 5235, 6000, 6002, 6004, 6006, 6008, 6010, 6012, 6014, 6016, 6018, 6020, 6022, 6024, 6026, 6028, 6030, 6032, 6034, 6036, 6038, 6040, 6042, 6044, 6046, 6048, 6050, 6052, 6054] : List Nat).filterMap sW := by decide +kernel
theorem sU_in {ws : List Jvm.Cond} {ps : List Nat} (h : ws = ps.filterMap sW) : ∀ w ∈ ws, w ∈ sTB := by
  intro w hw
  rw [h] at hw
  obtain ⟨p, -, hp⟩ := List.mem_filterMap.mp hw
  exact sW_in hp
def sCF (ci : Nat) (q : vw_C) : Prop := (∀ w ∈ u_ws q.1 q.2.1 q.2.2, w ∈ sTB) ∧ (∀ k, k < q.2.2 → parseFieldDescriptor (q.2.1 k).2.2.1 = some (sTy ci k)) ∧ (∀ a, a < q.2.2 → ∀ b, b < q.2.2 → a ≠ b → (q.2.1 a).2.1 ≠ (q.2.1 b).2.1)
theorem sCF_all : ∀ (ci : Nat) (q : vw_C), vwCl[ci]? = some q → sCF ci q := by
  intro ci q h
  match ci, h with
  | 0, h => cases h; exact ⟨sU_in sU0, tyX0_ok, nmX0⟩
  | 1, h => cases h; exact ⟨sU_in sU1, tyX1_ok, nmX1⟩
  | 2, h => cases h; exact ⟨sU_in sU2, tyX2_ok, nmX2⟩
  | 3, h => cases h; exact ⟨sU_in sU3, tyX3_ok, nmX3⟩
  | 4, h => cases h; exact ⟨sU_in sU4, tyX4_ok, nmX4⟩
  | 5, h => cases h; exact ⟨sU_in sU5, tyX5_ok, nmX5⟩
  | 6, h => cases h; exact ⟨sU_in sU6, tyX6_ok, nmX6⟩
  | 7, h => cases h; exact ⟨sU_in sU7, tyX7_ok, nmX7⟩
  | 8, h => cases h; exact ⟨sU_in sU8, tyX8_ok, nmX8⟩
  | 9, h => cases h; exact ⟨sU_in sU9, tyX9_ok, nmX9⟩
  | 10, h => cases h; exact ⟨sU_in sU10, tyX10_ok, nmX10⟩
  | 11, h => cases h; exact ⟨sU_in sU11, tyX11_ok, nmX11⟩
  | 12, h => cases h; exact ⟨sU_in sU12, tyX12_ok, nmX12⟩
  | k + 13, h => simp [vwCl] at h
end
section
/-! ===== cells ===== -/
def sTys (dA : Nat → ClassId) : List (ClassId × FieldType) := [(dA 0, .int), (dA 1, .long), (dA 2, .boolean), (dA 3, .object RX7), (dA 4, .object RX2), (dA 5, .array .int)]
/-- words that are not carried by the tables alone -/
def sNwl : List Jvm.Cond := [.arrayOver (.object RX7), .arrayOver (.object RX2), .arrayOver (.array .int), .castable RX9 RX2, .castable RX1 RX2, .castable RX5 RX2, .castable RX0 RX2, .castable RX4 RX2, .castable RX10 RX2, .methodLinkNest RX11 21 yX7_init RX11, .methodLinkNest RX11 41 yX8_init RX11]
/-- an object's field; an object of just this kind -/
def sFd (o n d : String) (v : Value) (a : Nat) (A : Nat → Prop) (U : State) (H : Heap) : Prop := ∃ (cf : ClassId) (k : Class) (i : Nat) (f : Field) (cell : Cell), U.fieldFound? o n d = some (cf, k, i, f) ∧ f.isStatic = false ∧ H[a]? = some cell ∧ cell.vm ≠ .unknown ∧ cell.vm.isStatics = false ∧ U.vm.assignable cell.cls cf = true ∧ cell.slots[f.slot]? = some v ∧ ¬ A a
theorem sFd_moved {o n d : String} {v : Value} {a : Nat} {A : Nat → Prop} {u U : State} {H : Heap} (hvm : u.vm.Alike U.vm) (h : sFd o n d v a A u H) : sFd o n d v a A U H := by
  obtain ⟨cf, k, i, f, cell, h1, h2, h3, h4, h5, h6, h7⟩ := h
  obtain ⟨k', hk', -⟩ := State.fieldFound?_setVm hvm h1
  exact ⟨cf, k', i, f, cell, hk', h2, h3, h4, h5, by rw [hvm.assignable]; exact h6, h7⟩
theorem sFd_kept {o n d : String} {v : Value} {a : Nat} {A : Nat → Prop} {U : State} {H H1 : Heap} (h : sFd o n d v a A U H) (hq : ∀ a : Nat, a < H.size → ¬ A a → H1[a]? = H[a]?) : sFd o n d v a A U H1 := by
  obtain ⟨cf, k, i, f, cell, h1, h2, h3, h4, h5, h6, h7, h8⟩ := h
  exact ⟨cf, k, i, f, cell, h1, h2, by rw [hq a (Array.getElem?_eq_some_iff.mp h3).1 h8]; exact h3, h4, h5, h6, h7, h8⟩
theorem sFd_ev {o n d : String} {v : Value} {a : Nat} {A : Nat → Prop} {s : State} {args : Array Value} {oc : Option Outcome} {idx : List Nat} {t : Term} (ht : t.eval args s oc idx s = some (.ref a)) (h : sFd o n d v a A s s.heap) : (Term.field t o n d).eval args s oc idx s = some v := by
  obtain ⟨cf, k, i, f, cell, h1, h2, h3, h4, h5, h6, h7, -⟩ := h
  rw [va_fe ht]
  simp [State.fieldOf?, State.fieldNamed?, h1, h2, h3, h4, h5, h6, h7]
def sEx (C : String) (a : Nat) (A : Nat → Prop) (U : State) (H : Heap) : Prop := ∃ (c : ClassId) (k : Class) (cell : Cell), U.vm.findClass C = some c ∧ H[a]? = some cell ∧ U.vm.classes[c]? = some k ∧ cell.vm.isStatics = false ∧ cell.cls = c ∧ (k.kind = .ordinary → cell.slots.size = k.instanceTypes.size) ∧ ¬ A a
theorem sEx_moved {C : String} {a : Nat} {A : Nat → Prop} {u U : State} {H : Heap} (hvm : u.vm.Alike U.vm) (h : sEx C a A u H) : sEx C a A U H := by
  obtain ⟨c, k, cell, h1, h2, h3, h4, h5, h6, h7⟩ := h
  obtain ⟨k', hk', he⟩ := hvm.2.2 _ _ h3
  exact ⟨c, k', cell, by rw [hvm.findClass]; exact h1, h2, hk', h4, h5, by rw [he]; exact h6, h7⟩
theorem sEx_kept {C : String} {a : Nat} {A : Nat → Prop} {U : State} {H H1 : Heap} (h : sEx C a A U H) (hq : ∀ a : Nat, a < H.size → ¬ A a → H1[a]? = H[a]?) : sEx C a A U H1 := by
  obtain ⟨c, k, cell, h1, h2, h3, h4, h5, h6, h7⟩ := h
  exact ⟨c, k, cell, h1, by rw [hq a (Array.getElem?_eq_some_iff.mp h2).1 h7]; exact h2, h3, h4, h5, h6, h7⟩
theorem sEx_ex {C : String} {a : Nat} {A : Nat → Prop} {s : State} {args : Array Value} {t : Term} (ht : t.eval args s none [] s = some (.ref a)) (h : sEx C a A s s.heap) : (Jvm.Cond.exactly t C).before args s = true := by
  obtain ⟨c, k, cell, h1, h2, h3, h4, h5, h6, h7⟩ := h
  simp only [Cond.before, Cond.holds, Cond.value, ht, h1, h2, h3, h4, h5]
  cases hk : k.kind <;> simp_all
/-- what the text reader's words are, and where -/
def sOuw (base : Nat) (b : Nat → Nat) (U : State) (H : Heap) : Prop := (∀ (i k : Nat) (tx : String), sTxI[i]? = some k → sTxT[i]? = some tx → vk_R RX6 k tx (b (2000000 + i)) U) ∧ (∃ adV : Nat → Nat, ∀ i : Nat, i < 7 → sEx "java/lang/String" (b (2000000 + i)) (fun q => base ≤ q) U H ∧ sFd "java/lang/String" "coder" "B" (.int 0) (b (2000000 + i)) (fun q => base ≤ q) U H ∧ sFd "java/lang/String" "value" "[B" (.ref (adV i)) (b (2000000 + i)) (fun q => base ≤ q) U H ∧ va_T .byte (adV i) (sTxL.getD i 0) (fun j => .int (sTxC i j)) (fun q => base ≤ q) U H) ∧ va_Z "java/lang/String" "COMPACT_STRINGS" "Z" (.int 1) (fun q => base ≤ q) U H ∧ ∃ fmt : Value, fmt.isRef = true ∧ va_Z "jdk/internal/util/Preconditions" "SIOOBE_FORMATTER" "Ljava/util/function/BiFunction;" fmt (fun q => base ≤ q) U H
theorem sOuw_kept {base : Nat} {b : Nat → Nat} {U : State} {H H1 : Heap} (hq : ∀ a : Nat, a < H.size → ¬ base ≤ a → H1[a]? = H[a]?) (h : sOuw base b U H) : sOuw base b U H1 := by
  obtain ⟨h1, ⟨adV, h2⟩, h3, fmt, h5, h4⟩ := h
  exact ⟨h1, ⟨adV, fun i hi => ⟨sEx_kept (h2 i hi).1 hq, sFd_kept (h2 i hi).2.1 hq, sFd_kept (h2 i hi).2.2.1 hq, (h2 i hi).2.2.2.kept hq⟩⟩, h3.kept hq, fmt, h5, h4.kept hq⟩
theorem sOuw_warm {base : Nat} {b : Nat → Nat} {s U : State} {H : Heap} (hW : s.WarmedH U.vm) (h : sOuw base b s H) : sOuw base b U H := by
  obtain ⟨h1, ⟨adV, h2⟩, h3, fmt, h5, h4⟩ := h
  exact ⟨fun i k tx e1 e2 => (h1 i k tx e1 e2).warm hW, ⟨adV, fun i hi => ⟨sEx_moved hW.alike (h2 i hi).1, sFd_moved hW.alike (h2 i hi).2.1, sFd_moved hW.alike (h2 i hi).2.2.1, (h2 i hi).2.2.2.moved hW.alike⟩⟩, h3.moved hW.alike, fmt, h5, h4.moved hW.alike⟩
theorem sOuw_same {base : Nat} {b : Nat → Nat} {s U : State} {H : Heap} (e : s.vm = U.vm) (h : sOuw base b s H) : sOuw base b U H := by
  obtain ⟨h1, ⟨adV, h2⟩, h3, fmt, h5, h4⟩ := h
  have ha : s.vm.Alike U.vm := by rw [e]; exact Vm.Alike.refl _
  exact ⟨fun i k tx e1 e2 => (h1 i k tx e1 e2).same e.symm, ⟨adV, fun i hi => ⟨sEx_moved ha (h2 i hi).1, sFd_moved ha (h2 i hi).2.1, sFd_moved ha (h2 i hi).2.2.1, (h2 i hi).2.2.2.moved ha⟩⟩, h3.moved ha, fmt, h5, h4.moved ha⟩
def sNw (U : State) : Prop := ∀ w ∈ sNwl, w.before #[] U = true
def sEnv (p : Program) (s : State) (m : MethodId) (c : Code) (args : Array Value) (cc : ByteArray) (nL base : Nat) (b : Nat → Nat) (D : va_G) (dA : Nat → ClassId) (own : String) : Prop :=
  p.tables.exec = Jvm.exec ∧ c.code = cc ∧ c.maxLocals = nL ∧ s.vm.findClass own = some m.cls ∧ (∀ w ∈ sTB, w.before args s = true) ∧ va_K D vwCl (sTys dA) s ∧ base ≤ s.heap.size ∧ sNw s ∧ sOuw base b s s.heap
def sSt (base : Nat) (b : Nat → Nat) (D : va_G) (dA : Nat → ClassId) (s : State) (h : sHp) (H : Heap) (locs : List Loc) : Prop := va_P D vwCl (rW (sAd base b) dA h) H ∧ va_S (fun q => base ≤ q) s.heap H locs ∧ h.length ≤ 1000000
section HEAP
variable {p : Program} {l : Launch} {e : Env} {R : Room} {s : State} {m : MethodId} {args : Array Value} {below : List Frame} {meth : Method} {c : Code} {H : Heap} {locs : List Loc} {cells slots : Nat} {Q : State → Prop} {cc : ByteArray} {pc : Nat} {ls : Array Slot} {nL base : Nat} {b : Nat → Nat} {D : va_G} {dA : Nat → ClassId} {own : String}
theorem sFit_ok {σ : Nat → Nat} {ty : FieldType} {v : Value} (h : sFit ty v = true) : narrow ty (rV σ v) = rV σ v ∧ fits ty (rV σ v) = true := by
  unfold sFit at h
  split at h
  · exact ⟨rfl, rfl⟩
  · exact ⟨rfl, rfl⟩
  · rcases of_decide_eq_true h with rfl | rfl
    · exact ⟨show narrow .boolean (.int 0) = .int 0 by decide, show fits .boolean (.int 0) = true by decide⟩
    · exact ⟨show narrow .boolean (.int 1) = .int 1 by decide, show fits .boolean (.int 1) = true by decide⟩
  · exact ⟨rfl, rfl⟩
  · exact ⟨rfl, rfl⟩
  · exact ⟨rfl, rfl⟩
  · exact ⟨rfl, rfl⟩
  · cases h
theorem s_cls {h : sHp} (S : sSt base b D dA s h H locs) {a ci : Nat} {fs : List Value} (ha : h[a]? = some (.inr (ci, fs))) : ∃ q, vwCl[ci]? = some q := by
  have h1 := S.1 a _ (rW_at ha)
  obtain ⟨q, hq, -⟩ := h1
  exact ⟨q, hq⟩
def sSame (ref : String) (q : vw_C) (j : Nat) : Prop := ref = (q.2.1 j).1 ∨ Jvm.Cond.sameField ref (q.2.1 j).1 (q.2.1 j).2.1 (q.2.1 j).2.2.1 ∈ sTB
theorem s_same (hts : ∀ w ∈ sTB, w.before args s = true) {ref : String} {q : vw_C} {j : Nat} (h : sSame ref q j) : ∀ x, s.fieldFound? (q.2.1 j).1 (q.2.1 j).2.1 (q.2.1 j).2.2.1 = some x → s.fieldFound? ref (q.2.1 j).2.1 (q.2.1 j).2.2.1 = some x := by
  intro x hx
  rcases h with e | e
  · rw [e]; exact hx
  · exact u_same (hts _ e) x hx
def sGetOk (own : String) (idx k : Nat) : Prop := ∃ ref : String, ∀ (ci : Nat) (q : vw_C), vwCl[ci]? = some q → sGrp ci = k / 64 → k % 64 < q.2.2 ∧ Jvm.Cond.fieldLink own idx ref (q.2.1 (k % 64)).2.1 (q.2.1 (k % 64)).2.2.1 ∈ sTB ∧ sSame ref q (k % 64)
theorem s_get (E : sEnv p s m c args cc nL base b D dA own) {h h' : sHp} (S : sSt base b D dA s h H locs) {k idx : Nat} (hdg : decode cc pc = .ok (.getfield idx, 3)) (hf : sGetOk own idx k) {st st' : List Value} (hh : sGetF k st h = some (st', h'))
    (kk : h' = h → W p l e R s m args below meth c H locs cells slots Q (F0 m (pc + 3) ls (rS (sAd base b) st'))) : W p l e R s m args below meth c H locs cells slots Q (F0 m pc ls (rS (sAd base b) st)) := by
  obtain ⟨hx, hb, hml, hown, hts, hK, hbs, hnw, hou⟩ := E
  obtain ⟨ref, hf⟩ := hf
  unfold sGetF at hh
  split at hh
  · split at hh
    · rename_i ci fs ha
      split at hh
      · rename_i hg
        split at hh
        · rename_i v hv
          cases hh
          obtain ⟨q, hq⟩ := s_cls S ha
          obtain ⟨f1, f2, f3⟩ := hf ci q hq hg
          obtain ⟨C, T, N⟩ := q
          exact va_get hx hb hts (sCF_all ci _ hq).1 hown hK S.1 _ (rW_at ha) hq (k % 64) f1 (hts _ f2) (s_same hts f3) (v := rV (sAd base b) v) (by rw [List.getElem?_map, hv]; rfl) hdg (kk rfl)
        · cases hh
      · cases hh
    · cases hh
  · cases hh
def sPutOk (own : String) (ini : Prop) (idx k : Nat) : Prop := ∃ ref : String, ∀ (ci : Nat) (q : vw_C), vwCl[ci]? = some q → sGrp ci = k / 64 → k % 64 < q.2.2 ∧ Jvm.Cond.fieldLink own idx ref (q.2.1 (k % 64)).2.1 (q.2.1 (k % 64)).2.2.1 ∈ sTB ∧ sSame ref q (k % 64) ∧ ((q.2.1 (k % 64)).2.2.2 = true → ini ∧ (q.2.1 (k % 64)).1 = own)
theorem s_put (E : sEnv p s m c args cc nL base b D dA own) {h h' : sHp} (S : sSt base b D dA s h H locs) {k idx : Nat} (hdg : decode cc pc = .ok (.putfield idx, 3)) {ini : Prop} (hini : ini → meth.name = "<init>") (hf : sPutOk own ini idx k) {st st' : List Value} (hh : sPutF k st h = some (st', h'))
    (kk : ∀ (H1 : Heap) (locs1 : List Loc), sSt base b D dA s h' H1 locs1 → h'.length = h.length → sSl h' = sSl h → W p l e R s m args below meth c H1 locs1 cells slots Q (F0 m (pc + 3) ls (rS (sAd base b) st'))) : W p l e R s m args below meth c H locs cells slots Q (F0 m pc ls (rS (sAd base b) st)) := by
  obtain ⟨hx, hb, hml, hown, hts, hK, hbs, hnw, hou⟩ := E
  obtain ⟨ref, hf⟩ := hf
  unfold sPutF at hh
  split at hh
  · rename_i v a r
    split at hh
    · rename_i ci fs ha
      split at hh
      · rename_i hg
        cases hh
        obtain ⟨hg, hl, hfit⟩ := hg
        obtain ⟨q, hq⟩ := s_cls S ha
        obtain ⟨f1, f2, f3, f4⟩ := hf ci q hq hg
        obtain ⟨C, T, N⟩ := q
        obtain ⟨c1, c2, c3⟩ := sCF_all ci _ hq
        obtain ⟨n1, n2⟩ := sFit_ok (σ := sAd base b) hfit
        have fin : ∀ (H1 : Heap) (locs1 : List Loc), va_P D vwCl ((rW (sAd base b) dA h).set a (sAd base b a, .inr (ci, (fs.map (rV (sAd base b))).set (k % 64) (rV (sAd base b) v)))) H1 → va_D (fun q => base ≤ q) ((rW (sAd base b) dA h).set a (sAd base b a, .inr (ci, (fs.map (rV (sAd base b))).set (k % 64) (rV (sAd base b) v)))) → va_S (fun q => base ≤ q) s.heap H1 locs1 → W p l e R s m args below meth c H1 locs1 cells slots Q (F0 m (pc + 3) ls (rS (sAd base b) st')) := by
          intro H1 l1 P1 _ S1
          refine kk H1 l1 ⟨?_, S1, by rw [List.length_set]; exact S.2.2⟩ (by rw [List.length_set]) (sSl_set ha (by show (fs.set _ _).length = fs.length; rw [List.length_set]))
          rw [← rW_set]
          show va_P D vwCl ((rW (sAd base b) dA h).set a (sAd base b a, .inr (ci, (fs.set (k % 64) v).map (rV (sAd base b))))) H1
          rw [List.map_set]
          exact P1
        cases hfl : (T (k % 64)).2.2.2 with
        | false => exact va_put hx hb hts c1 (sTy ci) c2 c3 hown hK S.1 (rW_apart S.2.2) S.2.1 a (rW_at ha) hq (k % 64) f1 (hts _ f2) (s_same hts f3) hfl (c2 _ f1) n1 n2 (by rw [List.length_map]; exact hl) hdg fin
        | true =>
          obtain ⟨g1, g2⟩ := f4 hfl
          exact va_putF hx hb hts c1 (sTy ci) c2 c3 hown hK S.1 (rW_apart S.2.2) S.2.1 a (rW_at ha) hq (k % 64) f1 (hts _ f2) (s_same hts f3) hfl (hini g1) g2 (c2 _ f1) n1 n2 (by rw [List.length_map]; exact hl) hdg fin
      · cases hh
    · cases hh
  · cases hh
theorem sUpd_map (σ : Nat → Nat) (f : Nat → Option Nat) (i : Nat) (r : Option Nat) : (fun j => (va_up f i r j).map σ) = va_up (fun j => (f j).map σ) i (r.map σ) := by
  funext j
  unfold va_up
  by_cases e : j = i <;> simp [e]
theorem s_ldAI (E : sEnv p s m c args cc nL base b D dA own) {h h' : sHp} (S : sSt base b D dA s h H locs) (hdg : decode cc pc = .ok (.iaload, 1)) {st st' : List Value} (hh : sLdAI 0 st h = some (st', h'))
    (kk : h' = h → W p l e R s m args below meth c H locs cells slots Q (F0 m (pc + 1) ls (rS (sAd base b) st'))) : W p l e R s m args below meth c H locs cells slots Q (F0 m pc ls (rS (sAd base b) st)) := by
  obtain ⟨hx, hb, hml, hown, hts, hK, hbs, hnw, hou⟩ := E
  unfold sLdAI at hh
  split at hh
  · split at hh
    · rename_i t n f ha
      split at hh
      · rename_i hg
        cases hh
        obtain ⟨rfl, hin⟩ := hg
        exact va_iald hx hb hK S.1 _ 0 (rW_at ha) rfl hin hdg (kk rfl)
      · cases hh
    · cases hh
  · cases hh
theorem s_ldAZ (E : sEnv p s m c args cc nL base b D dA own) {h h' : sHp} (S : sSt base b D dA s h H locs) (hdg : decode cc pc = .ok (.baload, 1)) {st st' : List Value} (hh : sLdAI 2 st h = some (st', h'))
    (kk : h' = h → W p l e R s m args below meth c H locs cells slots Q (F0 m (pc + 1) ls (rS (sAd base b) st'))) : W p l e R s m args below meth c H locs cells slots Q (F0 m pc ls (rS (sAd base b) st)) := by
  obtain ⟨hx, hb, hml, hown, hts, hK, hbs, hnw, hou⟩ := E
  unfold sLdAI at hh
  split at hh
  · split at hh
    · rename_i t n f ha
      split at hh
      · rename_i hg
        cases hh
        obtain ⟨rfl, hin⟩ := hg
        exact va_zald hx hb hK S.1 _ 2 (rW_at ha) rfl hin hdg (kk rfl)
      · cases hh
    · cases hh
  · cases hh
theorem s_ldAL (E : sEnv p s m c args cc nL base b D dA own) {h h' : sHp} (S : sSt base b D dA s h H locs) (hdg : decode cc pc = .ok (.laload, 1)) {st st' : List Value} (hh : sLdAL st h = some (st', h'))
    (kk : h' = h → W p l e R s m args below meth c H locs cells slots Q (F0 m (pc + 1) ls (rS (sAd base b) st'))) : W p l e R s m args below meth c H locs cells slots Q (F0 m pc ls (rS (sAd base b) st)) := by
  obtain ⟨hx, hb, hml, hown, hts, hK, hbs, hnw, hou⟩ := E
  unfold sLdAL at hh
  split at hh
  · split at hh
    · rename_i t n f ha
      split at hh
      · rename_i hg
        cases hh
        obtain ⟨rfl, hin⟩ := hg
        exact va_lald hx hb hK S.1 _ 1 (rW_at ha) rfl hin hdg (kk rfl)
      · cases hh
    · cases hh
  · cases hh
theorem s_ldAA (E : sEnv p s m c args cc nL base b D dA own) {h h' : sHp} (S : sSt base b D dA s h H locs) (hdg : decode cc pc = .ok (.aaload, 1)) {st st' : List Value} (hh : sLdAA st h = some (st', h'))
    (kk : h' = h → W p l e R s m args below meth c H locs cells slots Q (F0 m (pc + 1) ls (rS (sAd base b) st'))) : W p l e R s m args below meth c H locs cells slots Q (F0 m pc ls (rS (sAd base b) st)) := by
  obtain ⟨hx, hb, hml, hown, hts, hK, hbs, hnw, hou⟩ := E
  unfold sLdAA at hh
  split at hh
  · rename_i i a r
    split at hh
    · rename_i t n f ha
      split at hh
      · rename_i hg
        cases hh
        obtain ⟨ht, hin⟩ := hg
        have hlt : i.toNatClampNeg < n := Nat.not_le.mp fun q => hin (Or.inr q)
        have key : ∀ (t0 : Nat) (ty : FieldType), (sTys dA)[t0]? = some (dA t, ty) → ty.isReference = true → W p l e R s m args below meth c H locs cells slots Q (F0 m pc ls (rS (sAd base b) (.int i :: .ref a :: r))) := by
          intro t0 ty h1 h2
          have hPa : H[sAd base b a]? = some (vp_cell (dA t) (n, .inr (.inr (.inr (.inr (fun j => (f j).map (sAd base b))))))) := S.1 _ _ (rW_at ha)
          rw [vp_cell_q] at hPa
          refine W.aald (v := va_rf ((f i.toNatClampNeg).map (sAd base b))) (ty := ty) hx hb hPa ((hK.2 t0 _ h1).1 n (fun j => va_rf ((f j).map (sAd base b)))) h2 (fun q => by cases q) (by rw [arrV_size]; exact hin) (by rw [arrV_read _ _ hlt]) rfl rfl hdg ?_
          have k2 := kk rfl
          rw [rS, List.map_cons, rV_rf] at k2
          exact k2
        rcases ht with rfl | rfl | rfl
        · exact key 3 (.object RX7) rfl rfl
        · exact key 4 (.object RX2) rfl rfl
        · exact key 5 (.array .int) rfl rfl
      · cases hh
    · cases hh
  · cases hh
theorem s_stAI (E : sEnv p s m c args cc nL base b D dA own) {h h' : sHp} (S : sSt base b D dA s h H locs) (hdg : decode cc pc = .ok (.iastore, 1)) {st st' : List Value} (hh : sStAI st h = some (st', h'))
    (kk : ∀ (H1 : Heap) (locs1 : List Loc), sSt base b D dA s h' H1 locs1 → h'.length = h.length → sSl h' = sSl h → W p l e R s m args below meth c H1 locs1 cells slots Q (F0 m (pc + 1) ls (rS (sAd base b) st'))) : W p l e R s m args below meth c H locs cells slots Q (F0 m pc ls (rS (sAd base b) st)) := by
  obtain ⟨hx, hb, hml, hown, hts, hK, hbs, hnw, hou⟩ := E
  unfold sStAI at hh
  split at hh
  · split at hh
    · rename_i t n f ha
      split at hh
      · rename_i hg
        cases hh
        obtain ⟨rfl, hin⟩ := hg
        refine va_iast hx hb hK S.1 (rW_apart S.2.2) S.2.1 _ 0 (rW_at ha) rfl hin hdg fun H1 l1 P1 _ S1 => kk H1 l1 ⟨?_, S1, by rw [List.length_set]; exact S.2.2⟩ (by rw [List.length_set]) (sSl_set ha rfl)
        rw [← rW_set]
        exact P1
      · cases hh
    · cases hh
  · cases hh
theorem s_stAZ (E : sEnv p s m c args cc nL base b D dA own) {h h' : sHp} (S : sSt base b D dA s h H locs) (hdg : decode cc pc = .ok (.bastore, 1)) {st st' : List Value} (hh : sStAZ st h = some (st', h'))
    (kk : ∀ (H1 : Heap) (locs1 : List Loc), sSt base b D dA s h' H1 locs1 → h'.length = h.length → sSl h' = sSl h → W p l e R s m args below meth c H1 locs1 cells slots Q (F0 m (pc + 1) ls (rS (sAd base b) st'))) : W p l e R s m args below meth c H locs cells slots Q (F0 m pc ls (rS (sAd base b) st)) := by
  obtain ⟨hx, hb, hml, hown, hts, hK, hbs, hnw, hou⟩ := E
  unfold sStAZ at hh
  split at hh
  · rename_i x i a r
    split at hh
    · rename_i t n f ha
      split at hh
      · rename_i hg
        cases hh
        obtain ⟨rfl, hx01, hin⟩ := hg
        refine va_zast hx hb hK S.1 (rW_apart S.2.2) S.2.1 _ 2 (rW_at ha) rfl hin hdg fun H1 l1 P1 _ S1 => kk H1 l1 ⟨?_, S1, by rw [List.length_set]; exact S.2.2⟩ (by rw [List.length_set]) (sSl_set ha rfl)
        have hz : vp_nar .boolean x = x := by rcases hx01 with rfl | rfl <;> decide
        rw [hz] at P1
        rw [← rW_set]
        exact P1
      · cases hh
    · cases hh
  · cases hh
theorem s_stAL (E : sEnv p s m c args cc nL base b D dA own) {h h' : sHp} (S : sSt base b D dA s h H locs) (hdg : decode cc pc = .ok (.lastore, 1)) {st st' : List Value} (hh : sStAL st h = some (st', h'))
    (kk : ∀ (H1 : Heap) (locs1 : List Loc), sSt base b D dA s h' H1 locs1 → h'.length = h.length → sSl h' = sSl h → W p l e R s m args below meth c H1 locs1 cells slots Q (F0 m (pc + 1) ls (rS (sAd base b) st'))) : W p l e R s m args below meth c H locs cells slots Q (F0 m pc ls (rS (sAd base b) st)) := by
  obtain ⟨hx, hb, hml, hown, hts, hK, hbs, hnw, hou⟩ := E
  unfold sStAL at hh
  split at hh
  · split at hh
    · rename_i t n f ha
      split at hh
      · rename_i hg
        cases hh
        obtain ⟨rfl, hin⟩ := hg
        refine va_last hx hb hK S.1 (rW_apart S.2.2) S.2.1 _ 1 (rW_at ha) rfl hin hdg fun H1 l1 P1 _ S1 => kk H1 l1 ⟨?_, S1, by rw [List.length_set]; exact S.2.2⟩ (by rw [List.length_set]) (sSl_set ha rfl)
        rw [← rW_set]
        exact P1
      · cases hh
    · cases hh
  · cases hh
theorem s_cpy (E : sEnv p s m c args cc nL base b D dA own) (hsl : ls.size = nL) {h h' : sHp} (S : sSt base b D dA s h H locs) {idx : Nat} (hdg : decode cc pc = .ok (.invokestatic idx, 3)) (w1 : Jvm.Cond.methodLink own idx arraycopyName ∈ sTB) (w2 : Jvm.Cond.native arraycopyName ∈ sTB) (w3 : Jvm.Cond.static arraycopyName ∈ sTB) (w4 : Jvm.Cond.initialized "java/lang/System" ∈ sTB) (hRf : 1 ≤ R.frames) (hRl : 39 ≤ R.locals) {st st' : List Value} (hh : sCpy st h = some (st', h'))
    (kk : ∀ (H1 : Heap) (locs1 : List Loc), sSt base b D dA s h' H1 locs1 → h'.length = h.length → sSl h' = sSl h → W p l e R s m args below meth c H1 locs1 cells slots Q (F0 m (pc + 3) ls (rS (sAd base b) st'))) : W p l e R s m args below meth c H locs cells slots Q (F0 m pc ls (rS (sAd base b) st)) := by
  obtain ⟨hx, hb, hml, hown, hts, hK, hbs, hnw, hou⟩ := E
  unfold sCpy at hh
  split at hh
  · rename_i n dp a sp a0
    split at hh
    · rename_i n0 f n1 g ha0 ha
      split at hh
      · rename_i hg
        cases hh
        obtain ⟨h1, h2, h3, h4, h5⟩ := hg
        refine va_copyl (a := sAd base b a) (rest := []) hx hb (hml.trans hsl.symm) hown (hts _ w1) (hts _ w2) (hts _ w3) (hts _ w4) hK S.1 (rW_apart S.2.2) S.2.1 a0 a 1 1 (rW_at ha0) (rW_at ha) rfl rfl rfl h1 h2 h3 h4 h5 (fun _ _ => rfl) hRf (Nat.le_trans (by decide) hRl) hdg fun H1 l1 P1 _ S1 => kk H1 l1 ⟨?_, S1, by rw [List.length_set]; exact S.2.2⟩ (by rw [List.length_set]) (sSl_set ha rfl)
        rw [← rW_set]
        exact P1
      · cases hh
    · cases hh
  · cases hh
theorem s_ldcS (E : sEnv p s m c args cc nL base b D dA RX6) {i idx : Nat} (hi : i < 7) (hk : sTxI[i]? = some idx) (hdg : decode cc pc = .ok (.ldc idx, 2)) {st : List Value}
    (kk : W p l e R s m args below meth c H locs cells slots Q (F0 m (pc + 2) ls (rS (sAd base b) (.ref (2000000 + i) :: st)))) : W p l e R s m args below meth c H locs cells slots Q (F0 m pc ls (rS (sAd base b) st)) := by
  obtain ⟨hx, hb, hml, hown, hts, hK, hbs, hnw, hou⟩ := E
  obtain ⟨tx, htx⟩ : ∃ tx, sTxT[i]? = some tx := ⟨sTxT[i]'hi, List.getElem?_eq_getElem hi⟩
  refine va_ldcS hx hb hown (hou.1 i idx tx hk htx) hdg ?_
  have e : rS (sAd base b) (.ref (2000000 + i) :: st) = .ref (b (2000000 + i)) :: rS (sAd base b) st := by
    show Value.ref (sAd base b (2000000 + i)) :: _ = _
    unfold sAd
    rw [if_pos (by omega)]
  rw [e] at kk
  exact kk
theorem s_castOk (hnw : sNw s) {ci : Nat} {q : vw_C} (hq : vwCl[ci]? = some q) (hg : sGrp ci = 2) (hl : ci < 11) : ci = 2 ∨ (Jvm.Cond.castable q.1 RX2).before #[] s = true := by
  match ci, hq, hg, hl with
  | 0, hq, _, _ => cases hq; exact Or.inr (hnw _ (by simp [sNwl]))
  | 1, hq, _, _ => cases hq; exact Or.inr (hnw _ (by simp [sNwl]))
  | 2, hq, _, _ => exact Or.inl rfl
  | 3, hq, hg, _ => exact absurd hg (by decide)
  | 4, hq, _, _ => cases hq; exact Or.inr (hnw _ (by simp [sNwl]))
  | 5, hq, _, _ => cases hq; exact Or.inr (hnw _ (by simp [sNwl]))
  | 6, hq, hg, _ => exact absurd hg (by decide)
  | 7, hq, hg, _ => exact absurd hg (by decide)
  | 8, hq, hg, _ => exact absurd hg (by decide)
  | 9, hq, _, _ => cases hq; exact Or.inr (hnw _ (by simp [sNwl]))
  | 10, hq, _, _ => cases hq; exact Or.inr (hnw _ (by simp [sNwl]))
  | k + 11, _, _, hl => omega
theorem s_stAA (E : sEnv p s m c args cc nL base b D dA own) {h h' : sHp} (S : sSt base b D dA s h H locs) (hdg : decode cc pc = .ok (.aastore, 1)) {st st' : List Value} (hh : sStAA st h = some (st', h'))
    (kk : ∀ (H1 : Heap) (locs1 : List Loc), sSt base b D dA s h' H1 locs1 → h'.length = h.length → sSl h' = sSl h → W p l e R s m args below meth c H1 locs1 cells slots Q (F0 m (pc + 1) ls (rS (sAd base b) st'))) : W p l e R s m args below meth c H locs cells slots Q (F0 m pc ls (rS (sAd base b) st)) := by
  obtain ⟨hx, hb, hml, hown, hts, hK, hbs, hnw, hou⟩ := E
  unfold sStAA at hh
  split at hh
  · rename_i q i a r
    split at hh
    · rename_i t n f ha
      split at hh
      · rename_i hg
        cases hh
        obtain ⟨hob, hin⟩ := hg
        have fin : ∀ (H1 : Heap) (l1 : List Loc), va_P D vwCl ((rW (sAd base b) dA h).set a (sAd base b a, .inl (dA t, n, .inr (.inr (.inr (.inr (va_up (fun j => (f j).map (sAd base b)) i.toNatClampNeg (some (sAd base b q))))))))) H1 → va_D (fun q => base ≤ q) ((rW (sAd base b) dA h).set a (sAd base b a, .inl (dA t, n, .inr (.inr (.inr (.inr (va_up (fun j => (f j).map (sAd base b)) i.toNatClampNeg (some (sAd base b q))))))))) → va_S (fun q => base ≤ q) s.heap H1 l1 → W p l e R s m args below meth c H1 l1 cells slots Q (F0 m (pc + 1) ls (rS (sAd base b) st')) := by
          intro H1 l1 P1 _ S1
          refine kk H1 l1 ⟨?_, S1, by rw [List.length_set]; exact S.2.2⟩ (by rw [List.length_set]) (sSl_set ha rfl)
          rw [← rW_set]
          show va_P D vwCl ((rW (sAd base b) dA h).set a (sAd base b a, .inl (dA t, n, .inr (.inr (.inr (.inr (fun j => (va_up f i.toNatClampNeg (some q) j).map (sAd base b)))))))) H1
          rw [sUpd_map]
          exact P1
        unfold sIsObj at hob
        split at hob
        · rename_i ci fs hq
          simp only [Bool.or_eq_true, Bool.and_eq_true, beq_iff_eq, decide_eq_true_eq] at hob
          obtain ⟨qc, hqc⟩ := s_cls S hq
          rcases hob with ⟨rfl, rfl⟩ | ⟨rfl, hg2, hl⟩
          · cases hqc
            refine va_astqM (E := RX7) hx hb hK S.1 (rW_apart S.2.2) S.2.1 _ 3 (rW_at ha) rfl (va_rAny hK S.1 (rW_at hq) rfl ?_) hin hdg fin
            intro comp c0 h1 h2
            cases h1.symm.trans h2
            have h3 := (hK.1 7 _ rfl).2
            cases h3.1.symm.trans h1
            exact va_assign h3
          · refine va_astqM (E := RX2) hx hb hK S.1 (rW_apart S.2.2) S.2.1 _ 4 (rW_at ha) rfl (va_rAny hK S.1 (rW_at hq) hqc ?_) hin hdg fin
            intro comp c0 h1 h2
            rcases s_castOk hnw hqc hg2 hl with rfl | hc
            · cases hqc
              cases h1.symm.trans h2
              have h3 := (hK.1 2 _ rfl).2
              cases h3.1.symm.trans h1
              exact va_assign h3
            · obtain ⟨c3, c4, e3, e4, hasg⟩ := Cond.castable_spec hc
              cases h2.symm.trans e3
              cases h1.symm.trans e4
              exact hasg
        · cases hob
      · cases hh
    · cases hh
  · rename_i i a r
    split at hh
    · rename_i t n f ha
      split at hh
      · rename_i hg
        cases hh
        obtain ⟨ht, hin⟩ := hg
        have fin : ∀ (H1 : Heap) (l1 : List Loc), va_P D vwCl ((rW (sAd base b) dA h).set a (sAd base b a, .inl (dA t, n, .inr (.inr (.inr (.inr (va_up (fun j => (f j).map (sAd base b)) i.toNatClampNeg none))))))) H1 → va_D (fun q => base ≤ q) ((rW (sAd base b) dA h).set a (sAd base b a, .inl (dA t, n, .inr (.inr (.inr (.inr (va_up (fun j => (f j).map (sAd base b)) i.toNatClampNeg none))))))) → va_S (fun q => base ≤ q) s.heap H1 l1 → W p l e R s m args below meth c H1 l1 cells slots Q (F0 m (pc + 1) ls (rS (sAd base b) st')) := by
          intro H1 l1 P1 _ S1
          refine kk H1 l1 ⟨?_, S1, by rw [List.length_set]; exact S.2.2⟩ (by rw [List.length_set]) (sSl_set ha rfl)
          rw [← rW_set]
          show va_P D vwCl ((rW (sAd base b) dA h).set a (sAd base b a, .inl (dA t, n, .inr (.inr (.inr (.inr (fun j => (va_up f i.toNatClampNeg none j).map (sAd base b)))))))) H1
          rw [sUpd_map]
          exact P1
        rcases ht with rfl | rfl
        · exact va_astqN hx hb hK S.1 (rW_apart S.2.2) S.2.1 _ 3 (rW_at ha) rfl hin hdg fin
        · exact va_astqN hx hb hK S.1 (rW_apart S.2.2) S.2.1 _ 4 (rW_at ha) rfl hin hdg fin
      · cases hh
    · cases hh
  · cases hh
theorem rA_len (σ : Nat → Nat) (a : vp_A) : (rA σ a).1 = a.1 := by
  obtain ⟨n, d⟩ := a
  rcases d with d | d | d | d | d <;> rfl
theorem s_alen (E : sEnv p s m c args cc nL base b D dA own) {h h' : sHp} (S : sSt base b D dA s h H locs) (hdg : decode cc pc = .ok (.arraylength, 1)) {st st' : List Value} (hh : sALen st h = some (st', h'))
    (kk : h' = h → W p l e R s m args below meth c H locs cells slots Q (F0 m (pc + 1) ls (rS (sAd base b) st'))) : W p l e R s m args below meth c H locs cells slots Q (F0 m pc ls (rS (sAd base b) st)) := by
  obtain ⟨hx, hb, hml, hown, hts, hK, hbs, hnw, hou⟩ := E
  unfold sALen at hh
  split at hh
  · split at hh
    · rename_i t n d ha
      split at hh
      · rename_i ht
        cases hh
        have hty : ∃ ty, (sTys dA)[t]? = some (dA t, ty) := by
          match t, ht with
          | 0, _ => exact ⟨_, rfl⟩
          | 1, _ => exact ⟨_, rfl⟩
          | 2, _ => exact ⟨_, rfl⟩
          | 3, _ => exact ⟨_, rfl⟩
          | 4, _ => exact ⟨_, rfl⟩
          | 5, _ => exact ⟨_, rfl⟩
        obtain ⟨ty, hty⟩ := hty
        exact va_alen hx hb hK S.1 _ t (rW_at ha) hty (by rw [rA_len]) hdg (kk rfl)
      · cases hh
    · cases hh
  · cases hh
end HEAP
end
section
/-! ===== new cells, constants, jumps, ends ===== -/
section NEW
variable {p : Program} {l : Launch} {e : Env} {R : Room} {s : State} {m : MethodId} {args : Array Value} {below : List Frame} {meth : Method} {c : Code} {H : Heap} {locs : List Loc} {cells slots : Nat} {Q : State → Prop} {cc : ByteArray} {pc : Nat} {ls : Array Slot} {nL base : Nat} {b : Nat → Nat} {D : va_G} {dA : Nat → ClassId} {own : String}
theorem W_size {g : JFrame} (k : H.size ≤ s.heap.size + cells → W p l e R s m args below meth c H locs cells slots Q g) : W p l e R s m args below meth c H locs cells slots Q g := fun T hT X => k (by rw [← hT]; exact X.heapSize) T hT X
theorem s_size {h : sHp} (S : sSt base b D dA s h H locs) (hb : base ≤ s.heap.size) (ac : s.heap.size + cells = base + h.length) (hz : H.size ≤ s.heap.size + cells) : H.size = base + h.length := by
  cases hl : h.length with
  | zero =>
    have := S.2.1.1
    omega
  | succ n =>
    have hn : n < h.length := by omega
    have h1 := (S.1 n _ (rW_at (List.getElem?_eq_getElem hn))).lt
    have h2 : sAd base b n = base + n := sAd_in (by have := S.2.2; omega)
    have h3 : sAd base b n < H.size := h1
    omega
theorem rV_def (σ : Nat → Nat) (ty : FieldType) : rV σ (defaultValue ty) = defaultValue ty := by cases ty <;> rfl
theorem s_push {h : sHp} (S : sSt base b D dA s h H locs) (hs : H.size = base + h.length) (hl : h.length < 1000000) {x : va_E} {H1 : Heap} (hx : va_at D vwCl (base + h.length, rC (sAd base b) dA x) H1) (ho : ∀ q, q < base + h.length → H1[q]? = H[q]?) (hz : H.size ≤ H1.size) : sSt base b D dA s (h ++ [x]) H1 locs := by
  refine ⟨?_, ⟨Nat.le_trans S.2.1.1 hz, fun q h1 h2 => (ho q (by have := S.2.1.1; omega)).trans (S.2.1.2.1 q h1 h2), S.2.1.2.2⟩, by rw [List.length_append]; exact hl⟩
  rw [rW_app, sAd_in hl]
  refine (S.1.kept fun k y hk => ho y.1 (by have := (S.1 k y hk).lt; omega)).app fun k y hk => ?_
  have h0 : k < 1 := (List.getElem?_eq_some_iff.mp hk).1
  rw [show k = 0 by omega] at hk
  cases hk
  exact hx
def sNewOk (own : String) (idx k : Nat) : Prop := ∃ q, vwCl[k]? = some q ∧ Jvm.Cond.classLink own idx q.1 ∈ sTB ∧ Jvm.Cond.instantiable q.1 q.2.2 ∈ sTB ∧ Jvm.Cond.initialized q.1 ∈ sTB
theorem s_new (E : sEnv p s m c args cc nL base b D dA own) {h h' : sHp} (S : sSt base b D dA s h H locs) (ac : s.heap.size + cells = base + h.length) {k idx : Nat} (hdg : decode cc pc = .ok (.new idx, 3)) (hf : sNewOk own idx k) {st st' : List Value} (hh : sNew k st h = some (st', h')) (hl : h'.length ≤ 1000000)
    (hc : cells + (h'.length - h.length) ≤ R.cells) (hs : slots + (sSl h' - sSl h) ≤ R.slots)
    (kk : ∀ (H1 : Heap), sSt base b D dA s h' H1 locs → W p l e R s m args below meth c H1 locs (cells + (h'.length - h.length)) (slots + (sSl h' - sSl h)) Q (F0 m (pc + 3) ls (rS (sAd base b) st'))) : W p l e R s m args below meth c H locs cells slots Q (F0 m pc ls (rS (sAd base b) st)) := by
  obtain ⟨hx, hb, hml, hown, hts, hK, hbs, hnw, hou⟩ := E
  obtain ⟨q, hq, f1, f2, f3⟩ := hf
  unfold sNew at hh
  split at hh
  · cases hh
    have hsz : sSl (h ++ [.inr (k, sDef k)]) - sSl h = q.2.2 := by
      rw [sSl_app]
      show sSl h + ((sDef k).length + 0) - sSl h = _
      have : (sDef k).length = q.2.2 := by unfold sDef sNF; rw [hq, List.length_map, List.length_range]
      omega
    have hln : (h ++ [(.inr (k, sDef k) : va_E)]).length - h.length = 1 := by rw [List.length_append]; simp
    rw [hln] at hc kk
    rw [hsz] at hs kk
    have hl1 : h.length < 1000000 := by rw [List.length_append] at hl; exact hl
    refine W_size fun hz => ?_
    have hH := s_size S hbs ac hz
    obtain ⟨C, T, N⟩ := q
    obtain ⟨c1, c2, c3⟩ := sCF_all k _ hq
    have hKn := hK.1 k _ hq
    refine W.newcK hx hb hown (hts _ f1) (hts _ f2) (hts _ f3) rfl hdg hc hs hKn.2.1 hH fun H1 kC hkC e1 z1 o1 => ?_
    have h2 := kk H1 (s_push S hH hl1 ⟨_, hq, (u_born (sTy k) hts c1 hKn hkC e1 c2).to fun j hj => ?_⟩ o1 (by omega))
    · rw [rS, List.map_cons] at h2
      have e5 : rV (sAd base b) (.ref h.length) = .ref (base + h.length) := by show Value.ref (sAd base b h.length) = _; rw [sAd_in hl1]
      rw [e5] at h2
      exact h2
    · have hN : sNF k = N := by unfold sNF; rw [hq]
      show defaultValue (sTy k j) = vp_V ((sDef k).map (rV (sAd base b))) j
      unfold vp_V sDef
      rw [hN, List.map_map, List.getD_eq_getElem?_getD, List.getElem?_map, List.getElem?_range hj]
      show _ = rV (sAd base b) (defaultValue (sTy k j))
      rw [rV_def]
  · cases hh
theorem s_newAt (E : sEnv p s m c args cc nL base b D dA own) {h : sHp} (S : sSt base b D dA s h H locs) (ac : s.heap.size + cells = base + h.length) {aty : ArrayType} (hdg : decode cc pc = .ok (.newarray aty, 2)) (hw : Jvm.Cond.arrayClass (newarray.typeOf aty) ∈ sTB) {n : Int32} {r : List Value} (hn : ¬ (n < 0 ∨ 100000 < n.toNatClampNeg)) (hl : h.length < 1000000)
    (hc : cells + 1 ≤ R.cells) (hs : slots + n.toNatClampNeg ≤ R.slots) {t : Nat} {d : vp_A} (ht : s.vm.findClass ("[" ++ (newarray.typeOf aty).toString) = some (dA t)) (hb8 : componentBytes (newarray.typeOf aty) ≤ 8) (hd : ∀ cA, vp_cell cA (rA (sAd base b) d) = arrV cA n.toNatClampNeg (fun _ => defaultValue (newarray.typeOf aty)))
    (kk : ∀ (H1 : Heap), sSt base b D dA s (h ++ [.inl (t, d)]) H1 locs → W p l e R s m args below meth c H1 locs (cells + 1) (slots + n.toNatClampNeg) Q (F0 m (pc + 2) ls (rS (sAd base b) (.ref h.length :: r)))) : W p l e R s m args below meth c H locs cells slots Q (F0 m pc ls (rS (sAd base b) (.int n :: r))) := by
  obtain ⟨hx, hb, hml, hown, hts, hK, hbs, hnw, hou⟩ := E
  refine W_size fun hz => ?_
  have hH := s_size S hbs ac hz
  have hn1 : ¬ n < 0 := fun q => hn (Or.inl q)
  have hn2 : n.toNatClampNeg ≤ 100000 := by
    rcases Nat.lt_or_ge 100000 n.toNatClampNeg with q | q
    · exact absurd (Or.inr q) hn
    · exact q
  refine va_newaK hx hb (hts _ hw) rfl hdg rfl hn1 rfl (Nat.le_trans (Nat.mul_le_mul hn2 hb8) (by decide)) hc hs hH fun H1 cA e1 z1 o1 hAr hNm => ?_
  have e : cA = dA t := Option.some.inj (hNm.symm.trans ht)
  subst e
  have h2 := kk H1 (s_push S hH hl (by
    show H1[base + h.length]? = some (vp_cell (dA t) (rA (sAd base b) d))
    rw [hd]
    exact e1) o1 (by omega))
  rw [rS, List.map_cons] at h2
  have e5 : rV (sAd base b) (.ref h.length) = .ref (base + h.length) := by show Value.ref (sAd base b h.length) = _; rw [sAd_in hl]
  rw [e5] at h2
  exact h2
theorem s_newA (E : sEnv p s m c args cc nL base b D dA own) {h h' : sHp} (S : sSt base b D dA s h H locs) (ac : s.heap.size + cells = base + h.length) {aty : ArrayType} (hdg : decode cc pc = .ok (.newarray aty, 2)) (hw : Jvm.Cond.arrayClass (newarray.typeOf aty) ∈ sTB) {st st' : List Value} (hh : sNewA aty st h = some (st', h')) (hl : h'.length ≤ 1000000)
    (hc : cells + (h'.length - h.length) ≤ R.cells) (hs : slots + (sSl h' - sSl h) ≤ R.slots)
    (kk : ∀ (H1 : Heap), sSt base b D dA s h' H1 locs → W p l e R s m args below meth c H1 locs (cells + (h'.length - h.length)) (slots + (sSl h' - sSl h)) Q (F0 m (pc + 2) ls (rS (sAd base b) st'))) : W p l e R s m args below meth c H locs cells slots Q (F0 m pc ls (rS (sAd base b) st)) := by
  have hK : va_K D vwCl (sTys dA) s := E.2.2.2.2.2.1
  have key : ∀ (x : va_E) (n : Nat), sSz x = n → (h ++ [x]).length - h.length = 1 ∧ sSl (h ++ [x]) - sSl h = n := by
    intro x n hx
    refine ⟨by rw [List.length_append]; simp, ?_⟩
    rw [sSl_app]
    show sSl h + (sSz x + 0) - sSl h = n
    omega
  unfold sNewA at hh
  split at hh
  · rename_i n r
    split at hh
    · cases hh
    · rename_i hn
      split at hh
      · cases hh
        obtain ⟨k1, k2⟩ := key (.inl (0, n.toNatClampNeg, .inl (fun _ => 0))) _ rfl
        rw [k1] at hc kk
        rw [k2] at hs kk
        rw [List.length_append] at hl
        exact s_newAt E S ac hdg hw hn hl hc hs (hK.2 0 _ rfl).2 (by decide) (fun cA => rfl) kk
      · cases hh
        obtain ⟨k1, k2⟩ := key (.inl (1, n.toNatClampNeg, .inr (.inl (fun _ => 0)))) _ rfl
        rw [k1] at hc kk
        rw [k2] at hs kk
        rw [List.length_append] at hl
        exact s_newAt E S ac hdg hw hn hl hc hs (hK.2 1 _ rfl).2 (by decide) (fun cA => rfl) kk
      · cases hh
        obtain ⟨k1, k2⟩ := key (.inl (2, n.toNatClampNeg, .inl (fun _ => 0))) _ rfl
        rw [k1] at hc kk
        rw [k2] at hs kk
        rw [List.length_append] at hl
        exact s_newAt E S ac hdg hw hn hl hc hs (hK.2 2 _ rfl).2 (by decide) (fun cA => rfl) kk
      · cases hh
  · cases hh
def sNewQOk (own : String) (idx k : Nat) : Prop := (k = 3 ∧ Jvm.Cond.classLink own idx RX7 ∈ sTB) ∨ (k = 4 ∧ Jvm.Cond.classLink own idx RX2 ∈ sTB)
theorem s_newQ (E : sEnv p s m c args cc nL base b D dA own) {h h' : sHp} (S : sSt base b D dA s h H locs) (ac : s.heap.size + cells = base + h.length) {k idx : Nat} (hdg : decode cc pc = .ok (.anewarray idx, 3)) (hf : sNewQOk own idx k) {st st' : List Value} (hh : sNewQ k st h = some (st', h')) (hl : h'.length ≤ 1000000)
    (hc : cells + (h'.length - h.length) ≤ R.cells) (hs : slots + (sSl h' - sSl h) ≤ R.slots)
    (kk : ∀ (H1 : Heap), sSt base b D dA s h' H1 locs → W p l e R s m args below meth c H1 locs (cells + (h'.length - h.length)) (slots + (sSl h' - sSl h)) Q (F0 m (pc + 3) ls (rS (sAd base b) st'))) : W p l e R s m args below meth c H locs cells slots Q (F0 m pc ls (rS (sAd base b) st)) := by
  obtain ⟨hx, hb, hml, hown, hts, hK, hbs, hnw, hou⟩ := E
  unfold sNewQ at hh
  split at hh
  · rename_i n r
    split at hh
    · cases hh
    · rename_i hn
      cases hh
      have hn1 : ¬ n < 0 := fun q => hn (Or.inl q)
      have hn2 : n.toNatClampNeg ≤ 100000 := by
        rcases Nat.lt_or_ge 100000 n.toNatClampNeg with q | q
        · exact absurd (Or.inr (Or.inl q)) hn
        · exact q
      have k1 : (h ++ [(.inl (k, n.toNatClampNeg, .inr (.inr (.inr (.inr (fun _ => none))))) : va_E)]).length - h.length = 1 := by rw [List.length_append]; simp
      have k2 : sSl (h ++ [(.inl (k, n.toNatClampNeg, .inr (.inr (.inr (.inr (fun _ => none))))) : va_E)]) - sSl h = n.toNatClampNeg := by
        rw [sSl_app]
        show sSl h + (n.toNatClampNeg + 0) - sSl h = _
        omega
      rw [k1] at hc kk
      rw [k2] at hs kk
      rw [List.length_append] at hl
      have hl1 : h.length < 1000000 := hl
      refine W_size fun hz => ?_
      have hH := s_size S hbs ac hz
      have go : ∀ (C : String), Jvm.Cond.classLink own idx C ∈ sTB → (Jvm.Cond.arrayOver (.object C)).before #[] s = true → s.vm.findClass ("[" ++ (FieldType.object C).toString) = some (dA k) → W p l e R s m args below meth c H locs cells slots Q (F0 m pc ls (rS (sAd base b) (.int n :: r))) := by
        intro C w1 w2 w3
        refine W.anew hx hb hown (hts _ w1) (va_AO.use w2) rfl hdg rfl hn1 (by omega) hc hs fun cA kA comp f1 f2 f3 f4 => ?_
        have e : cA = dA k := Option.some.inj (f1.symm.trans w3)
        subst e
        have h2 := kk _ (s_push (H1 := H.push { cls := dA k, slots := Array.replicate n.toNatClampNeg .null, vm := .none }) S hH hl1 (by
          show (H.push _)[base + h.length]? = some (vp_cell (dA k) (n.toNatClampNeg, .inr (.inr (.inr (.inr (fun _ => none))))))
          rw [vp_cell_q, ← hH, Array.getElem?_push_size, arrV_new]
          rfl) (fun q hq => by rw [Array.getElem?_push, if_neg (by omega)]) (by rw [Array.size_push]; omega))
        rw [rS, List.map_cons] at h2
        have e5 : rV (sAd base b) (.ref h.length) = .ref H.size := by show Value.ref (sAd base b h.length) = _; rw [sAd_in hl1, hH]
        rw [e5] at h2
        exact h2
      rcases hf with ⟨rfl, hf⟩ | ⟨rfl, hf⟩
      · obtain ⟨_, _, _, _, _, w⟩ := (hK.2 3 _ rfl).2
        exact go RX7 hf (hnw _ (by simp [sNwl])) w
      · obtain ⟨_, _, _, _, _, w⟩ := (hK.2 4 _ rfl).2
        exact go RX2 hf (hnw _ (by simp [sNwl])) w
  · cases hh
/-! jumps -/
theorem sTgt_of {off : Int} {t : Nat} (h : sTgt pc off = some t) : (pc : Int) + off = (t : Int) := by
  unfold sTgt at h
  split at h
  · rename_i t' e
    cases h
    exact e
  · cases h
theorem sIf_of {off : Int} {bb : Bool} {r st' : List Value} {pc' : Nat} (h : sIf pc off bb r = some (pc', st'))   : ∃ t : Nat, (pc : Int) + off = (t : Int) ∧ pc' = (bif bb then t else pc + 3) ∧ st' = r := by
  unfold sIf at h
  split at h
  · rename_i t e
    cases h
    exact ⟨t, sTgt_of e, rfl, rfl⟩
  · cases h
set_option maxHeartbeats 4000000 in
theorem s_jmp (hx : p.tables.exec = Jvm.exec) (hb : c.code = cc) {σ : Nat → Nat} {ins : Instr} {pc' len : Nat} {st st' : List Value} (h : sJmp ins pc st = some (pc', st')) (hdg : decode cc pc = .ok (ins, len)) (hlen : (∃ d lo hi o, ins = .tableswitch d lo hi o) ∨ (∃ d ps, ins = .lookupswitch d ps ∧ (ps.toList.zip (ps.toList.drop 1)).all (fun (a, next) => a.1 < next.1) = true) ∨ (len = 3 ∧ ∀ d ps, ins ≠ .lookupswitch d ps))
    (kk : W p l e R s m args below meth c H locs cells slots Q (F0 m pc' ls (rS σ st'))) : W p l e R s m args below meth c H locs cells slots Q (F0 m pc ls (rS σ st)) := by
  unfold sJmp at h
  split at h
  · rename_i off
    rcases hlen with ⟨_, _, _, _, q⟩ | ⟨_, _, q, _⟩ | ⟨rfl, -⟩
    · cases q
    · cases q
    obtain ⟨t, h1, h2⟩ := Option.map_eq_some_iff.mp h
    cases h2
    exact lv_goto hx hb hdg (sTgt_of h1) kk
  · rename_i cnd off
    rcases hlen with ⟨_, _, _, _, q⟩ | ⟨_, _, q, _⟩ | ⟨rfl, -⟩
    · cases q
    · cases q
    split at h
    · rename_i y x r
      obtain ⟨t, ht, h2, rfl⟩ := sIf_of h
      subst h2
      cases cnd
      · exact lv_icmp_eq hx hb hdg ht (fun q => by rw [show sC2 .eq x y = true from decide_eq_true q] at kk; exact kk) (fun q => by rw [show sC2 .eq x y = false from decide_eq_false q] at kk; exact kk)
      · exact lv_icmp_ne hx hb hdg ht (fun q => by rw [show sC2 .ne x y = true from by show (!decide (x = y)) = true; rw [decide_eq_false q]; rfl] at kk; exact kk) (fun q => by rw [show sC2 .ne x y = false from by show (!decide (x = y)) = false; rw [decide_eq_true q]; rfl] at kk; exact kk)
      · exact lv_icmp_lt hx hb hdg ht (fun q => by rw [show sC2 .lt x y = true from decide_eq_true q] at kk; exact kk) (fun q => by rw [show sC2 .lt x y = false from decide_eq_false q] at kk; exact kk)
      · exact lv_icmp_ge hx hb hdg ht (fun q => by rw [show sC2 .ge x y = true from decide_eq_true q] at kk; exact kk) (fun q => by rw [show sC2 .ge x y = false from decide_eq_false q] at kk; exact kk)
      · exact lv_icmp_gt hx hb hdg ht (fun q => by rw [show sC2 .gt x y = true from decide_eq_true q] at kk; exact kk) (fun q => by rw [show sC2 .gt x y = false from decide_eq_false q] at kk; exact kk)
      · exact lv_icmp_le hx hb hdg ht (fun q => by rw [show sC2 .le x y = true from decide_eq_true q] at kk; exact kk) (fun q => by rw [show sC2 .le x y = false from decide_eq_false q] at kk; exact kk)
    · cases h
  · rename_i cnd off
    rcases hlen with ⟨_, _, _, _, q⟩ | ⟨_, _, q, _⟩ | ⟨rfl, -⟩
    · cases q
    · cases q
    split at h
    · rename_i x r
      obtain ⟨t, ht, h2, rfl⟩ := sIf_of h
      subst h2
      cases cnd
      · exact lv_if_eq hx hb hdg ht (fun q => by rw [show sC2 .eq x 0 = true from decide_eq_true q] at kk; exact kk) (fun q => by rw [show sC2 .eq x 0 = false from decide_eq_false q] at kk; exact kk)
      · exact lv_if_ne hx hb hdg ht (fun q => by rw [show sC2 .ne x 0 = true from by show (!decide (x = 0)) = true; rw [decide_eq_false q]; rfl] at kk; exact kk) (fun q => by rw [show sC2 .ne x 0 = false from by show (!decide (x = 0)) = false; rw [decide_eq_true q]; rfl] at kk; exact kk)
      · exact lv_if_lt hx hb hdg ht (fun q => by rw [show sC2 .lt x 0 = true from decide_eq_true q] at kk; exact kk) (fun q => by rw [show sC2 .lt x 0 = false from decide_eq_false q] at kk; exact kk)
      · exact lv_if_ge hx hb hdg ht (fun q => by rw [show sC2 .ge x 0 = true from decide_eq_true q] at kk; exact kk) (fun q => by rw [show sC2 .ge x 0 = false from decide_eq_false q] at kk; exact kk)
      · exact lv_if_gt hx hb hdg ht (fun q => by rw [show sC2 .gt x 0 = true from decide_eq_true q] at kk; exact kk) (fun q => by rw [show sC2 .gt x 0 = false from decide_eq_false q] at kk; exact kk)
      · exact lv_if_le hx hb hdg ht (fun q => by rw [show sC2 .le x 0 = true from decide_eq_true q] at kk; exact kk) (fun q => by rw [show sC2 .le x 0 = false from decide_eq_false q] at kk; exact kk)
    · cases h
  · rename_i off
    rcases hlen with ⟨_, _, _, _, q⟩ | ⟨_, _, q, _⟩ | ⟨rfl, -⟩
    · cases q
    · cases q
    split at h
    · obtain ⟨t, ht, h2, rfl⟩ := sIf_of h
      subst h2
      exact lv_ifnullN hx hb hdg ht kk
    · obtain ⟨t, ht, h2, rfl⟩ := sIf_of h
      subst h2
      exact lv_ifnull hx hb hdg kk
    · cases h
  · rename_i off
    rcases hlen with ⟨_, _, _, _, q⟩ | ⟨_, _, q, _⟩ | ⟨rfl, -⟩
    · cases q
    · cases q
    split at h
    · obtain ⟨t, ht, h2, rfl⟩ := sIf_of h
      subst h2
      exact lv_ifnonnullN hx hb hdg kk
    · obtain ⟨t, ht, h2, rfl⟩ := sIf_of h
      subst h2
      exact lv_ifnonnull hx hb hdg ht kk
    · cases h
  · rename_i dflt lo hi offs
    split at h
    · rename_i x r
      split at h
      · rename_i hc
        obtain ⟨t, h1, h2⟩ := Option.map_eq_some_iff.mp h
        cases h2
        exact lv_tableOut hx hb hdg hc (sTgt_of h1) kk
      · rename_i hc
        split at h
        · rename_i off ho
          obtain ⟨t, h1, h2⟩ := Option.map_eq_some_iff.mp h
          cases h2
          exact lv_tableIn hx hb hdg (fun q => hc (Or.inl q)) (fun q => hc (Or.inr q)) ho (sTgt_of h1) kk
        · cases h
    · cases h
  · rename_i dflt ps
    rcases hlen with ⟨_, _, _, _, q⟩ | ⟨_, _, q, hp⟩ | ⟨-, q⟩
    · cases q
    · cases q
      split at h
      · rename_i x r
        obtain ⟨t, h1, h2⟩ := Option.map_eq_some_iff.mp h
        cases h2
        exact lv_lookup hx hb hdg hp rfl (sTgt_of h1) kk
      · cases h
    · exact absurd rfl (q _ _)
  · cases h
/-! ends -/
theorem s_ret (hx : p.tables.exec = Jvm.exec) (hb : c.code = cc) {σ : Nat → Nat} {Qc : Array Value → State → Outcome → State → Prop} {free : Addr → Prop} {rt : Option FieldType} {ins : Instr} {st : List Value} {v : Option Value} (h : sRet rt ins st = some v) (hr : meth.sig.returnType = rt) (hlocks : meth.locks = false)
    (hq : ∀ t : State, t.heap = H → s.WarmedH t.vm → Qc args s (.returned (v.map (rV σ))) t) (hf : ∀ q ∈ locs, free q.base) (hdg : decode cc pc = .ok (ins, 1)) : W p l e R s m args below meth c H locs cells slots (MQ below Qc args s cells slots free) (F0 m pc ls (rS σ st)) := by
  unfold sRet at h
  split at h
  · split at h
    · split at h
      · rename_i hn
        cases h
        exact W.zret hx hb hr hn hq hf hdg hlocks
      · cases h
    · cases h
  · split at h
    · cases h
      exact W.lret hx hb hr hq hf hdg hlocks
    · cases h
  · split at h
    · cases h
      exact W.aret hx hb hr (Or.inl ⟨_, rfl⟩) (Or.inr ⟨_, rfl⟩) hq hf hdg hlocks
    · cases h
      exact W.aret hx hb hr (Or.inl ⟨_, rfl⟩) (Or.inl rfl) hq hf hdg hlocks
    · cases h
  · split at h
    · cases h
      exact W.vret hx hb hr hq hf hdg hlocks
    · cases h
  · cases h
end NEW
end
section
/-! ===== the rows are what the bytes say, and their words stand in the tables ===== -/
def mY (q : sMt) : MethodName := q.1
def mC (q : sMt) : ByteArray := q.2.1
def mN (q : sMt) : Nat := q.2.2.1
def mR (q : sMt) : Option FieldType := q.2.2.2.1
def mK (q : sMt) : Nat := q.2.2.2.2.1
def mI (q : sMt) : Nat := q.2.2.2.2.2.1
def mA (q : sMt) : Nat := q.2.2.2.2.2.2.1
def mW (q : sMt) : List Nat := q.2.2.2.2.2.2.2.1
def mT (q : sMt) : List sEt := q.2.2.2.2.2.2.2.2
def sM (k : Nat) : Option sMt := sMs[k]?
def sNA (k : Nat) : Nat := match sM k with
  | some q => mA q
  | none => 0
def sOwn (k : Nat) : Nat := match sM k with
  | some q => mI q
  | none => 99
def sFt (q : sMt) (pc : Nat) : Option Instr := match (mT q).find? (fun e => e.1 == pc) with
  | some e => some e.2.2.1
  | none => none
/-- length and charAt of the words -/
def sStC (d k : Nat) (as : List Value) (h : sHp) : sOr := match as with
  | [.ref a] => if k = 300 ∧ 1 ≤ d ∧ 2000000 ≤ a ∧ a < 2000007 then some (some (.int (Int32.ofNat (sTxL.getD (a - 2000000) 0))), h) else none
  | [.ref a, .int i] => if k = 301 ∧ 3 ≤ d ∧ (2000000 ≤ a ∧ a < 2000007) ∧ ¬ (i < 0 ∨ sTxL.getD (a - 2000000) 0 ≤ i.toNatClampNeg) then some (some (.int (sTxC (a - 2000000) i.toNatClampNeg)), h) else none
  | _ => none
def sCall : Nat → Nat → Nat → List Value → sHp → sOr
  | 0, _, _, _, _ => none
  | d + 1, n, k, as, h => if 300 ≤ k then sStC d k as h else (sM k).bind fun q => (sIni (mN q) as).bind fun L => sRun none (sFt q) (mR q) (sCal sNA sOwn sVt) (sCall d n) n 0 L [] h
def sCN (ci : Nat) : String := match vwCl[ci]? with
  | some q => q.1
  | none => ""
def sWi (p : Nat) (w : Jvm.Cond) : Bool := decide (sW p = some w)
theorem sWi_in {p : Nat} {w : Jvm.Cond} (h : sWi p w = true) : w ∈ sTB := sW_in (of_decide_eq_true h)
def sR1 (i : Instr) (r : List Nat) (f : Nat → Instr) : Instr := match r with
  | x :: _ => f x
  | [] => i
def sReal (i : Instr) (r : List Nat) : Instr := match i with
  | .getfield k => sR1 (.getfield k) r (fun x => .getfield x)
  | .putfield k => sR1 (.putfield k) r (fun x => .putfield x)
  | .new k => sR1 (.new k) r (fun x => .new x)
  | .anewarray k => sR1 (.anewarray k) r (fun x => .anewarray x)
  | .multianewarray k d => sR1 (.multianewarray k d) r (fun x => .multianewarray x d)
  | .ldc2_w k => sR1 (.ldc2_w k) r (fun x => .ldc2_w x)
  | .ldc k => sR1 (.ldc k) r (fun x => .ldc x)
  | .ldc_w k => sR1 (.ldc_w k) r (fun x => .ldc_w x)
  | .invokevirtual k => sR1 (.invokevirtual k) r (fun x => .invokevirtual x)
  | .invokestatic k => sR1 (.invokestatic k) r (fun x => .invokestatic x)
  | .invokespecial k => sR1 (.invokespecial k) r (fun x => .invokespecial x)
  | .invokeinterface k c => sR1 (.invokeinterface k c) r (fun x => .invokevirtual x)
  | i => i
def sAllC (P : Nat → vw_C → Bool) : Bool := (List.range 13).all (fun ci => match vwCl[ci]? with
  | some q => P ci q
  | none => true)
theorem sAllC_of {P : Nat → vw_C → Bool} (h : sAllC P = true) (ci : Nat) (q : vw_C) (hq : vwCl[ci]? = some q) : P ci q = true := by
  have hl : ci < 13 := (List.getElem?_eq_some_iff.mp hq).1
  have h1 := List.all_eq_true.mp h ci (List.mem_range.mpr hl)
  rw [hq] at h1
  exact h1
def sChkG (own : String) (k idx p1 rc p2 : Nat) : Bool := sAllC (fun ci q => !(sGrp ci == k / 64) || (decide (k % 64 < q.2.2) && sWi p1 (.fieldLink own idx (sCN rc) (q.2.1 (k % 64)).2.1 (q.2.1 (k % 64)).2.2.1) && (decide (sCN rc = (q.2.1 (k % 64)).1) || sWi p2 (.sameField (sCN rc) (q.2.1 (k % 64)).1 (q.2.1 (k % 64)).2.1 (q.2.1 (k % 64)).2.2.1))))
def sChkF (own nm : String) (k : Nat) : Bool := sAllC (fun ci q => !(sGrp ci == k / 64) || (!(q.2.1 (k % 64)).2.2.2 || (decide (nm = "<init>") && decide ((q.2.1 (k % 64)).1 = own))))
theorem sChkG_ok {own : String} {k idx p1 rc p2 : Nat} (h : sChkG own k idx p1 rc p2 = true) : sGetOk own idx k := by
  refine ⟨sCN rc, fun ci q hq hg => ?_⟩
  have h1 := sAllC_of h ci q hq
  simp only [Bool.or_eq_true, Bool.and_eq_true, Bool.not_eq_true', beq_eq_false_iff_ne, decide_eq_true_eq] at h1
  rcases h1 with h1 | ⟨⟨h1, h2⟩, h3⟩
  · exact absurd hg h1
  · exact ⟨h1, sWi_in h2, h3.imp id sWi_in⟩
theorem sChkF_ok {own nm : String} {k idx p1 rc p2 : Nat} (h : sChkG own k idx p1 rc p2 = true) (h' : sChkF own nm k = true) : sPutOk own (nm = "<init>") idx k := by
  obtain ⟨ref, h0⟩ := sChkG_ok h
  refine ⟨ref, fun ci q hq hg => ?_⟩
  obtain ⟨f1, f2, f3⟩ := h0 ci q hq hg
  refine ⟨f1, f2, f3, fun hf => ?_⟩
  have h1 := sAllC_of h' ci q hq
  simp only [Bool.or_eq_true, Bool.and_eq_true, Bool.not_eq_true', beq_eq_false_iff_ne, decide_eq_true_eq] at h1
  rcases h1 with h1 | h1 | h1
  · exact absurd hg h1
  · rw [hf] at h1; cases h1
  · exact h1
/-- the names under which a cut's calls stand -/
def sFx (k : Nat) : MethodName := match k with
  | 1000 => yX2_isOf
  | 1001 => yX2_firstIn
  | 1002 => yX2_laneIn
  | 1003 => yX2_partsBody
  | 1004 => yX2_weighsBody
  | _ => yX2_hedgesBody
def sFn (k : Nat) : Nat := sVt k 2
def sSup (own : String) (idx p p2 p3 : Nat) (y : MethodName) : Bool := sWi p (.methodLink own idx y) && sWi p2 (.sameMethod y.cls y.cls y.name y.desc) && sWi p3 (.superclass own y.cls)
/-- a method that the superclass itself has from above -/
def sSup2 (own : String) (idx p p2 p3 p4 : Nat) (y : MethodName) : Bool := match sW p with
  | some (.methodLink o i x) => decide (o = own ∧ i = idx ∧ x.name = y.name ∧ x.desc = y.desc) && (sWi p2 (.sameMethod x.cls y.cls y.name y.desc) && (sWi p3 (.superclass own x.cls) && sWi p4 (.superclass x.cls y.cls)))
  | _ => false
theorem sSup2_of {own : String} {idx p p2 p3 p4 : Nat} {y : MethodName} (h : sSup2 own idx p p2 p3 p4 y = true) : ∃ xc : String, Jvm.Cond.methodLink own idx ⟨xc, y.name, y.desc⟩ ∈ sTB ∧ Jvm.Cond.sameMethod xc y.cls y.name y.desc ∈ sTB ∧ Jvm.Cond.superclass own xc ∈ sTB ∧ Jvm.Cond.superclass xc y.cls ∈ sTB := by
  unfold sSup2 at h
  split at h
  · rename_i o i x hw
    simp only [Bool.and_eq_true, decide_eq_true_eq] at h
    obtain ⟨⟨rfl, rfl, e1, e2⟩, h2, h3, h4⟩ := h
    obtain ⟨xc, xn, xd⟩ := x
    dsimp only at e1 e2 h2 h3 h4
    subst e1 e2
    exact ⟨xc, sW_in hw, sWi_in h2, sWi_in h3, sWi_in h4⟩
  · cases h
def sExt (own nm : String) (ins : Instr) (r : List Nat) : Bool := match ins with
  | .getfield k => (match r with
    | [idx, p1, rc, p2] => sChkG own k idx p1 rc p2
    | _ => false)
  | .putfield k => (match r with
    | [idx, p1, rc, p2] => sChkG own k idx p1 rc p2 && sChkF own nm k
    | _ => false)
  | .new k => (match r, vwCl[k]? with
    | [idx, p1, p2, p3], some q => sWi p1 (.classLink own idx q.1) && sWi p2 (.instantiable q.1 q.2.2) && sWi p3 (.initialized q.1)
    | _, _ => false)
  | .newarray t => (match r with
    | [p] => sWi p (.arrayClass (newarray.typeOf t))
    | _ => false)
  | .anewarray k => (match r with
    | [idx, p] => (k == 3 && sWi p (.classLink own idx RX7)) || (k == 4 && sWi p (.classLink own idx RX2))
    | _ => false)
  | .multianewarray k d => (match r with
    | [idx, p, p2] => d == 2 && (sWi p (.classLink own idx ("[" ++ (FieldType.array .int).toString)) && sWi p2 (.arrayClass .int))
    | _ => false)
  | .ldc2_w k => (match r with
    | [idx, p] => sWi p (.constantLong own idx (Int64.ofNat k))
    | _ => false)
  | .ldc k => (match r with
    | [idx, p] => decide (k < 4294967296) && sWi p (.constant own idx (Int32.ofNat k))
    | [idx] => decide (own = RX6 ∧ 4294967296 ≤ k ∧ sTxI[k - 4294967296]? = some idx)
    | _ => false)
  | .ldc_w k => (match r with
    | [idx, p] => sWi p (.constant own idx (Int32.ofNat k))
    | _ => false)
  | .lookupswitch _ ps => (ps.toList.zip (ps.toList.drop 1)).all (fun (a, next) => a.1 < next.1)
  | .invokestatic k => if k < 258 then (match r, sM k with
    | [idx, p], some z => mK z == 0 && sWi p (.methodLink own idx (mY z))
    | _, _ => false) else if k = 1003 then (match r with
    | [idx, p, p1, p2, p3] => sWi p (.methodLink own idx arraycopyName) && (sWi p1 (.native arraycopyName) && (sWi p2 (.static arraycopyName) && sWi p3 (.initialized "java/lang/System")))
    | _ => false) else (match r with
    | [idx, p, p1, p2, p3] => decide (1000 ≤ k) && sWi p2 (.initialized "java/lang/Math") && (if k = 1000 then sWi p (.methodLink own idx Lib.Math.max.name) && sWi p1 (.static Lib.Math.max.name) && sWi p3 (.code Lib.Math.max.name Lib.Math.max.code 2 (some .int)) else if k = 1001 then sWi p (.methodLink own idx Lib.Math.min.name) && sWi p1 (.static Lib.Math.min.name) && sWi p3 (.code Lib.Math.min.name Lib.Math.min.code 2 (some .int)) else sWi p (.methodLink own idx Lib.Math.abs.name) && sWi p1 (.static Lib.Math.abs.name) && sWi p3 (.code Lib.Math.abs.name Lib.Math.abs.code 1 (some .int)))
    | _ => false)
  | .invokespecial k => if k < 258 then (match r, sM k with
    | [idx, p], some z => mK z == 2 && sWi p (.methodLink own idx (mY z))
    | [idx], some z => mK z == 2 && decide (Jvm.Cond.methodLinkNest own idx (mY z) RX11 ∈ sNwl)
    | [idx, p, p2, p3], some z => mK z == 1 && sSup own idx p p2 p3 (mY z)
    | [idx, p, p2, p3, p4], some z => mK z == 1 && sSup2 own idx p p2 p3 p4 (mY z)
    | _, _ => false) else (match r with
    | [idx, p, p2, p3] => decide (1000 ≤ k) && sWi p (.methodLink own idx Lib.objectInit) && sWi p2 (.instanceMethod Lib.objectInit) && sWi p3 (.code Lib.objectInit ⟨#[0xb1]⟩ 1 none)
    | _ => false)
  | .invokevirtual k => if k < 258 then (match r, sM k with
    | [idx, p], some z => mK z == 1 && sWi p (.methodLink own idx (mY z)) && (match mW z with
      | [_, _, _, s] => sWi s (.selects (mY z).cls (mY z) (mY z))
      | _ => false)
    | _, _ => false) else (match r with
    | [idx, p] => decide (1000 ≤ k ∧ k < 1006) && sWi p (.methodLink own idx (sFx k))
    | _ => false)
  | .invokeinterface k _ => (match r with
    | [idx, p] => (k == 3000 && sWi p (.methodLink own idx Jvm.Lib.Str.length.name)) || (k == 3001 && sWi p (.methodLink own idx Jvm.Lib.Str.charAt.name))
    | _ => false)
  | _ => true
def sSw (ins : Instr) : Bool := match ins with
  | .tableswitch _ _ _ _ => true
  | .lookupswitch _ _ => true
  | .nop => true
  | _ => false
def sChkE (q : sMt) (e : sEt) : Bool := (match e.2.2.1 with
  | .nop => true
  | _ => decide (decode (mC q) e.1 = .ok (sReal e.2.2.1 e.2.2.2, e.2.1)) && ((sSw e.2.2.1 || decide (e.2.1 = sLen e.2.2.1)) && sExt (mY q).cls (mY q).name e.2.2.1 e.2.2.2))
def sChkM (q : sMt) : Bool := (match mW q with
  | pc :: pi :: pn :: _ => sWi pc (.code (mY q) (mC q) (mN q) (mR q)) && (sWi pn (.initialized (mY q).cls) && (if mK q = 0 then sWi pi (.static (mY q)) else sWi pi (.instanceMethod (mY q))))
  | _ => false) && (Jvm.plainName (mY q).cls && (decide ((mY q).cls ≠ "java/lang/invoke/MethodHandle" ∧ (mY q).cls ≠ "java/lang/invoke/VarHandle" ∧ (parseMethodDescriptor (mY q).desc).map (fun d => d.parameters.length) = some (mA q)) && (decide (mN q ≤ 16) && (decide (mK q = 2 → (mY q).name = "<init>" ∧ mR q = none) && (decide (mK q = 1 → (mY q).name ≠ "<init>") && decide (mK q ≠ 0 → vwCl[mI q]?.map (fun z => z.1) = some (mY q).cls))))))
end
