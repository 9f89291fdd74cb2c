/-! ===== THE SIMPLE MACHINE: a run of the bytecode over cells that are known by their places ===== -/
abbrev sHp : Type := List va_E
abbrev sLo : Type := List (Option Value)
def sLen : Instr → Nat
  | .aload _ => 2
  | .iload _ => 2
  | .lload _ => 2
  | .istore _ => 2
  | .lstore _ => 2
  | .astore _ => 2
  | .bipush _ => 2
  | .ldc _ => 2
  | .newarray _ => 2
  | .sipush _ => 3
  | .getfield _ => 3
  | .putfield _ => 3
  | .goto _ => 3
  | .if_icmp _ _ => 3
  | .ifCond _ _ => 3
  | .iinc _ _ => 3
  | .invokevirtual _ => 3
  | .invokestatic _ => 3
  | .invokespecial _ => 3
  | .ldc2_w _ => 3
  | .ldc_w _ => 3
  | .new _ => 3
  | .anewarray _ => 3
  | .ifnull _ => 3
  | .ifnonnull _ => 3
  | .getstatic _ => 3
  | .invokeinterface _ _ => 3
  | .multianewarray _ _ => 4
  | _ => 1
/-- stack shapes -/
def s2i (f : Int32 → Int32 → Option Value) (st : List Value) : Option (List Value) := match st with
  | .int y :: .int x :: r => (f x y).map (fun v => v :: r)
  | _ => none
def s2l (f : Int64 → Int64 → Option Value) (st : List Value) : Option (List Value) := match st with
  | .long y :: .long x :: r => (f x y).map (fun v => v :: r)
  | _ => none
def sil (f : Int64 → Int32 → Option Value) (st : List Value) : Option (List Value) := match st with
  | .int y :: .long x :: r => (f x y).map (fun v => v :: r)
  | _ => none
def s1i (f : Int32 → Value) (st : List Value) : Option (List Value) := match st with
  | .int x :: r => some (f x :: r)
  | _ => none
def s1l (f : Int64 → Value) (st : List Value) : Option (List Value) := match st with
  | .long x :: r => some (f x :: r)
  | _ => none
def sPure (ins : Instr) (st : List Value) : Option (List Value) := match ins with
  | .iconst n => some (.int (Int32.ofInt n) :: st)
  | .bipush n => some (.int (Int8.ofInt n).toInt32 :: st)
  | .sipush n => some (.int (Int16.ofInt n).toInt32 :: st)
  | .lconst n => some (.long (Int64.ofNat (n : Nat)) :: st)
  | .aconst_null => some (.null :: st)
  | .iadd => s2i (fun x y => some (.int (x + y))) st
  | .isub => s2i (fun x y => some (.int (x - y))) st
  | .imul => s2i (fun x y => some (.int (x * y))) st
  | .iand => s2i (fun x y => some (.int (x &&& y))) st
  | .ior => s2i (fun x y => some (.int (x ||| y))) st
  | .ixor => s2i (fun x y => some (.int (x ^^^ y))) st
  | .idiv => s2i (fun x y => if y = 0 then none else some (.int (x / y))) st
  | .irem => s2i (fun x y => if y = 0 then none else some (.int (x - x / y * y))) st
  | .ineg => s1i (fun x => .int (-x)) st
  | .ishl => s2i (fun x y => some (.int (x <<< (y &&& 31)))) st
  | .ishr => s2i (fun x y => some (.int (x >>> (y &&& 31)))) st
  | .ladd => s2l (fun x y => some (.long (x + y))) st
  | .lsub => s2l (fun x y => some (.long (x - y))) st
  | .land => s2l (fun x y => some (.long (x &&& y))) st
  | .lor => s2l (fun x y => some (.long (x ||| y))) st
  | .lxor => s2l (fun x y => some (.long (x ^^^ y))) st
  | .lneg => s1l (fun x => .long (-x)) st
  | .lshl => sil (fun x y => some (.long (x <<< (y.toInt64 &&& 63)))) st
  | .lshr => sil (fun x y => some (.long (x >>> (y.toInt64 &&& 63)))) st
  | .lushr => sil (fun x y => some (.long (x.toUInt64 >>> (y.toInt64.toUInt64 &&& Int64.toUInt64 63)).toInt64)) st
  | .lcmp => s2l (fun x y => some (.int (lg_cmp x y))) st
  | .i2l => s1i (fun x => .long x.toInt64) st
  | .l2i => s1l (fun x => .int x.toInt32) st
  | .i2b => s1i (fun x => .int x.toInt8.toInt32) st
  | .i2s => s1i (fun x => .int x.toInt16.toInt32) st
  | .i2c => s1i (fun x => .int (x.toUInt32 % 65536).toInt32) st
  | .dup => (match st with
    | a :: r => if a.category = 1 then some (a :: a :: r) else none
    | _ => none)
  | .dup_x1 => (match st with
    | a :: b :: r => if a.category = 1 ∧ b.category = 1 then some (a :: b :: a :: r) else none
    | _ => none)
  | .dup2 => (match st with
    | a :: b :: r => if a.category = 1 ∧ b.category = 1 then some (a :: b :: a :: b :: r) else none
    | _ => none)
  | .pop => (match st with
    | a :: r => if a.category = 1 then some r else none
    | _ => none)
  | .pop2 => (match st with
    | a :: r => if a.category = 2 then some r else none
    | _ => none)
  | _ => none
/-- locals -/
def sLdI (L : sLo) (i : Nat) (st : List Value) : Option (sLo × List Value) := match L[i]? with
  | some (some (.int x)) => some (L, .int x :: st)
  | _ => none
def sLdL (L : sLo) (i : Nat) (st : List Value) : Option (sLo × List Value) := match L[i]? with
  | some (some (.long x)) => some (L, .long x :: st)
  | _ => none
def sLdA (L : sLo) (i : Nat) (st : List Value) : Option (sLo × List Value) := match L[i]? with
  | some (some (.ref x)) => some (L, .ref x :: st)
  | some (some .null) => some (L, .null :: st)
  | _ => none
def sIsL : Option (Option Value) → Bool
  | some (some (.long _)) => true
  | _ => false
/-- the slot i takes a value; a long whose second half it was is gone -/
def sKill (L : sLo) (i : Nat) : sLo := match i with
  | 0 => L
  | j + 1 => if sIsL L[j]? then L.set j none else L
def sPut (L : sLo) (i : Nat) (v : Value) : sLo := (sKill L i).set i (some v)
def sPutL (L : sLo) (i : Nat) (v : Value) : sLo := (sPut L i v).set (i + 1) none
def sStI (L : sLo) (i : Nat) (st : List Value) : Option (sLo × List Value) := match st with
  | .int x :: r => if i < L.length then some (sPut L i (.int x), r) else none
  | _ => none
def sStL (L : sLo) (i : Nat) (st : List Value) : Option (sLo × List Value) := match st with
  | .long x :: r => if i + 1 < L.length then some (sPutL L i (.long x), r) else none
  | _ => none
def sStA (L : sLo) (i : Nat) (st : List Value) : Option (sLo × List Value) := match st with
  | .ref x :: r => if i < L.length then some (sPut L i (.ref x), r) else none
  | .null :: r => if i < L.length then some (sPut L i .null, r) else none
  | _ => none
def sInc (L : sLo) (i : Nat) (n : Int) (st : List Value) : Option (sLo × List Value) := match L[i]? with
  | some (some (.int x)) => some (sPut L i (.int (x + Int32.ofInt n)), st)
  | _ => none
def sLoc (ins : Instr) (L : sLo) (st : List Value) : Option (sLo × List Value) := match ins with
  | .iload i => sLdI L i st
  | .iload_n i => sLdI L i st
  | .lload i => sLdL L i st
  | .lload_n i => sLdL L i st
  | .aload i => sLdA L i st
  | .aload_n i => sLdA L i st
  | .istore i => sStI L i st
  | .istore_n i => sStI L i st
  | .lstore i => sStL L i st
  | .lstore_n i => sStL L i st
  | .astore i => sStA L i st
  | .astore_n i => sStA L i st
  | .iinc i n => sInc L i n st
  | _ => none
/-- cells: which group a class is of (its fields' places); an object's first fields; a field's type -/
def sGrp (ci : Nat) : Nat := if ci = 3 ∨ ci = 6 ∨ ci = 7 ∨ ci = 8 ∨ ci = 11 ∨ ci = 12 then ci else 2
def sTy (ci : Nat) : Nat → FieldType := match ci with
  | 0 => tyX0
  | 1 => tyX1
  | 2 => tyX2
  | 3 => tyX3
  | 4 => tyX4
  | 5 => tyX5
  | 6 => tyX6
  | 7 => tyX7
  | 8 => tyX8
  | 9 => tyX9
  | 10 => tyX10
  | 11 => tyX11
  | _ => tyX12
def sNF (ci : Nat) : Nat := match vwCl[ci]? with
  | some q => q.2.2
  | none => 0
def sDef (ci : Nat) : List Value := (List.range (sNF ci)).map (fun k => defaultValue (sTy ci k))
/-- the array types by their tags -/
def sAT : List FieldType := [.int, .long, .boolean, .object RX7, .object RX2, .array .int]
def sFit (ty : FieldType) (v : Value) : Bool := match ty, v with
  | .int, .int _ => true
  | .long, .long _ => true
  | .boolean, .int x => decide (x = 0 ∨ x = 1)
  | .object _, .ref _ => true
  | .object _, .null => true
  | .array _, .ref _ => true
  | .array _, .null => true
  | _, _ => false
def sGetF (k : Nat) (st : List Value) (h : sHp) : Option (List Value × sHp) := match st with
  | .ref a :: r => (match h[a]? with
    | some (.inr (ci, fs)) => if sGrp ci = k / 64 then (match fs[k % 64]? with
      | some v => some (v :: r, h)
      | none => none) else none
    | _ => none)
  | _ => none
def sPutF (k : Nat) (st : List Value) (h : sHp) : Option (List Value × sHp) := match st with
  | v :: .ref a :: r => (match h[a]? with
    | some (.inr (ci, fs)) => if sGrp ci = k / 64 ∧ k % 64 < fs.length ∧ sFit (sTy ci (k % 64)) v = true then some (r, h.set a (.inr (ci, fs.set (k % 64) v))) else none
    | _ => none)
  | _ => none
def sIn (i : Int32) (n : Nat) : Prop := ¬ (i < 0 ∨ n ≤ i.toNatClampNeg)
def sLdAI (tag : Nat) (st : List Value) (h : sHp) : Option (List Value × sHp) := match st with
  | .int i :: .ref a :: r => (match h[a]? with
    | some (.inl (t, n, .inl f)) => if t = tag ∧ ¬ (i < 0 ∨ n ≤ i.toNatClampNeg) then some (.int (f i.toNatClampNeg) :: r, h) else none
    | _ => none)
  | _ => none
def sLdAL (st : List Value) (h : sHp) : Option (List Value × sHp) := match st with
  | .int i :: .ref a :: r => (match h[a]? with
    | some (.inl (t, n, .inr (.inl f))) => if t = 1 ∧ ¬ (i < 0 ∨ n ≤ i.toNatClampNeg) then some (.long (f i.toNatClampNeg) :: r, h) else none
    | _ => none)
  | _ => none
def sLdAA (st : List Value) (h : sHp) : Option (List Value × sHp) := match st with
  | .int i :: .ref a :: r => (match h[a]? with
    | some (.inl (t, n, .inr (.inr (.inr (.inr f))))) => if (t = 3 ∨ t = 4 ∨ t = 5) ∧ ¬ (i < 0 ∨ n ≤ i.toNatClampNeg) then some (va_rf (f i.toNatClampNeg) :: r, h) else none
    | _ => none)
  | _ => none
def sStAI (st : List Value) (h : sHp) : Option (List Value × sHp) := match st with
  | .int x :: .int i :: .ref a :: r => (match h[a]? with
    | some (.inl (t, n, .inl f)) => if t = 0 ∧ ¬ (i < 0 ∨ n ≤ i.toNatClampNeg) then some (r, h.set a (.inl (t, n, .inl (upd f i.toNatClampNeg x)))) else none
    | _ => none)
  | _ => none
def sStAZ (st : List Value) (h : sHp) : Option (List Value × sHp) := match st with
  | .int x :: .int i :: .ref a :: r => (match h[a]? with
    | some (.inl (t, n, .inl f)) => if t = 2 ∧ (x = 0 ∨ x = 1) ∧ ¬ (i < 0 ∨ n ≤ i.toNatClampNeg) then some (r, h.set a (.inl (t, n, .inl (upd f i.toNatClampNeg x)))) else none
    | _ => none)
  | _ => none
def sStAL (st : List Value) (h : sHp) : Option (List Value × sHp) := match st with
  | .long x :: .int i :: .ref a :: r => (match h[a]? with
    | some (.inl (t, n, .inr (.inl f))) => if t = 1 ∧ ¬ (i < 0 ∨ n ≤ i.toNatClampNeg) then some (r, h.set a (.inl (t, n, .inr (.inl (vp_updL f i.toNatClampNeg x))))) else none
    | _ => none)
  | _ => none
def sIsObj (t : Nat) (c : Option va_E) : Bool := match c with
  | some (.inr (ci, _)) => (t == 3 && ci == 7) || (t == 4 && (sGrp ci == 2 && decide (ci < 11)))
  | _ => false
def sStAA (st : List Value) (h : sHp) : Option (List Value × sHp) := match st with
  | .ref q :: .int i :: .ref a :: r => (match h[a]? with
    | some (.inl (t, n, .inr (.inr (.inr (.inr f))))) => if sIsObj t h[q]? = true ∧ ¬ (i < 0 ∨ n ≤ i.toNatClampNeg) then some (r, h.set a (.inl (t, n, .inr (.inr (.inr (.inr (va_up f i.toNatClampNeg (some q)))))))) else none
    | _ => none)
  | .null :: .int i :: .ref a :: r => (match h[a]? with
    | some (.inl (t, n, .inr (.inr (.inr (.inr f))))) => if (t = 3 ∨ t = 4) ∧ ¬ (i < 0 ∨ n ≤ i.toNatClampNeg) then some (r, h.set a (.inl (t, n, .inr (.inr (.inr (.inr (va_up f i.toNatClampNeg none))))))) else none
    | _ => none)
  | _ => none
def sALen (st : List Value) (h : sHp) : Option (List Value × sHp) := match st with
  | .ref a :: r => (match h[a]? with
    | some (.inl (t, n, d)) => if t < 6 then some (.int (Int32.ofNat n) :: r, h) else none
    | _ => none)
  | _ => none
def sNew (k : Nat) (st : List Value) (h : sHp) : Option (List Value × sHp) := if k < 13 then some (.ref h.length :: st, h ++ [.inr (k, sDef k)]) else none
def sNewA (ty : ArrayType) (st : List Value) (h : sHp) : Option (List Value × sHp) := match st with
  | .int n :: r => if n < 0 ∨ 100000 < n.toNatClampNeg then none else (match ty with
    | .int => some (.ref h.length :: r, h ++ [.inl (0, n.toNatClampNeg, .inl (fun _ => 0))])
    | .long => some (.ref h.length :: r, h ++ [.inl (1, n.toNatClampNeg, .inr (.inl (fun _ => 0)))])
    | .boolean => some (.ref h.length :: r, h ++ [.inl (2, n.toNatClampNeg, .inl (fun _ => 0))])
    | _ => none)
  | _ => none
def sNewQ (k : Nat) (st : List Value) (h : sHp) : Option (List Value × sHp) := match st with
  | .int n :: r => if n < 0 ∨ 100000 < n.toNatClampNeg ∨ ¬ (k = 3 ∨ k = 4) then none else some (.ref h.length :: r, h ++ [.inl (k, n.toNatClampNeg, .inr (.inr (.inr (.inr (fun _ => none)))))])
  | _ => none
def sNewM (st : List Value) (h : sHp) : Option (List Value × sHp) := match st with
  | .int k :: .int n :: r => if n = 5 ∧ k = 6 then some (.ref h.length :: r, h ++ (.inl (5, 5, .inr (.inr (.inr (.inr (fun j => if j < 5 then some (h.length + 1 + j) else none))))) :: List.replicate 5 (.inl (0, 6, .inl (fun _ => 0))))) else none
  | _ => none
/-- the law's script: the row that no cell is; its place is 1000000 -/
abbrev sX : Type := Option (Nat × (Nat → Int32))
def sScr (X : sX) (ins : Instr) (st : List Value) : Option (List Value) := match X with
  | some (L, xs) => (match ins with
    | .arraylength => (match st with
      | .ref a :: r => if a = 1000000 then some (.int (Int32.ofNat L) :: r) else none
      | _ => none)
    | .iaload => (match st with
      | .int i :: .ref a :: r => if a = 1000000 ∧ ¬ (i < 0 ∨ L ≤ i.toNatClampNeg) then some (.int (xs i.toNatClampNeg) :: r) else none
      | _ => none)
    | _ => none)
  | none => none
/-- the words of the text reader: their places in the pool, their letters; the place of the i-th is 2000000 + i -/
def sTxI : List Nat := [69, 70, 72, 74, 76, 78, 80]
def sTxT : List String := ["size", "soil", "road", "well", "oak", "small", "heir"]
def sTxL : List Nat := [4, 4, 4, 4, 3, 5, 4]
def sTxB : List (List Int32) := [[115, 105, 122, 101], [115, 111, 105, 108], [114, 111, 97, 100], [119, 101, 108, 108], [111, 97, 107], [115, 109, 97, 108, 108], [104, 101, 105, 114]]
def sTxC (i j : Nat) : Int32 := (sTxB.getD i []).getD j 0
/-- System.arraycopy of longs -/
def sCpy (st : List Value) (h : sHp) : Option (List Value × sHp) := match st with
  | [.int n, .int dp, .ref a, .int sp, .ref a0] => (match h[a0]?, h[a]? with
    | some (.inl (1, n0, .inr (.inl f))), some (.inl (1, n1, .inr (.inl g))) => if ¬ sp < 0 ∧ ¬ dp < 0 ∧ ¬ n < 0 ∧ sp.toNatClampNeg + n.toNatClampNeg ≤ n0 ∧ dp.toNatClampNeg + n.toNatClampNeg ≤ n1 then some ([], h.set a (.inl (1, n1, .inr (.inl (va_cpy f g sp.toNatClampNeg dp.toNatClampNeg n.toNatClampNeg))))) else none
    | _, _ => none)
  | _ => none
def sHeap (ins : Instr) (st : List Value) (h : sHp) : Option (List Value × sHp) := match ins with
  | .getfield k => sGetF k st h
  | .putfield k => sPutF k st h
  | .iaload => sLdAI 0 st h
  | .baload => sLdAI 2 st h
  | .laload => sLdAL st h
  | .aaload => sLdAA st h
  | .iastore => sStAI st h
  | .bastore => sStAZ st h
  | .lastore => sStAL st h
  | .aastore => sStAA st h
  | .arraylength => sALen st h
  | .new k => sNew k st h
  | .newarray ty => sNewA ty st h
  | .anewarray k => sNewQ k st h
  | .multianewarray _ _ => sNewM st h
  | .ldc2_w k => some (.long (Int64.ofNat k) :: st, h)
  | .ldc k => if k < 4294967296 then some (.int (Int32.ofNat k) :: st, h) else if k < 4294967303 then some (.ref (2000000 + (k - 4294967296)) :: st, h) else none
  | .ldc_w k => some (.int (Int32.ofNat k) :: st, h)
  | .invokestatic k => if k = 1003 then sCpy st h else none
  | _ => none
/-- jumps -/
def sTgt (pc : Nat) (off : Int) : Option Nat := match (pc : Int) + off with
  | .ofNat t => some t
  | _ => none
def sIf (pc : Nat) (off : Int) (b : Bool) (st : List Value) : Option (Nat × List Value) := match sTgt pc off with
  | some t => some (bif b then t else pc + 3, st)
  | none => none
def sC2 (c : Jvm.ClassFile.Cond) (x y : Int32) : Bool := match c with
  | .eq => decide (x = y)
  | .ne => !decide (x = y)
  | .lt => decide (x < y)
  | .ge => decide (y ≤ x)
  | .gt => decide (y < x)
  | .le => decide (x ≤ y)
def sJmp (ins : Instr) (pc : Nat) (st : List Value) : Option (Nat × List Value) := match ins with
  | .goto off => (sTgt pc off).map (fun t => (t, st))
  | .if_icmp c off => (match st with
    | .int y :: .int x :: r => sIf pc off (sC2 c x y) r
    | _ => none)
  | .ifCond c off => (match st with
    | .int x :: r => sIf pc off (sC2 c x 0) r
    | _ => none)
  | .ifnull off => (match st with
    | .null :: r => sIf pc off true r
    | .ref _ :: r => sIf pc off false r
    | _ => none)
  | .ifnonnull off => (match st with
    | .null :: r => sIf pc off false r
    | .ref _ :: r => sIf pc off true r
    | _ => none)
  | .tableswitch dflt lo hi offs => (match st with
    | .int x :: r => if x.toInt < lo ∨ hi < x.toInt then (sTgt pc dflt).map (fun t => (t, r)) else (match offs[(x.toInt - lo).toNat]? with
      | some off => (sTgt pc off).map (fun t => (t, r))
      | none => none)
    | _ => none)
  | .lookupswitch dflt ps => (match st with
    | .int x :: r => (sTgt pc (Op.lookupswitch.offset ps.toList dflt x.toInt)).map (fun t => (t, r))
    | _ => none)
  | _ => none
def sRet (rt : Option FieldType) (ins : Instr) (st : List Value) : Option (Option Value) := match ins with
  | .ireturn => (match st, rt with
    | [.int v], some ty => if narrow ty (.int v) = .int v then some (some (.int v)) else none
    | _, _ => none)
  | .lreturn => (match st, rt with
    | [.long v], some .long => some (some (.long v))
    | _, _ => none)
  | .areturn => (match st, rt with
    | [.ref v], some (.object _) => some (some (.ref v))
    | [.null], some (.object _) => some (some .null)
    | _, _ => none)
  | .return_ => (match st, rt with
    | [], none => some none
    | _, _ => none)
  | _ => none
/-- calls of the library's, with no frame of ours -/
def sSpec (ins : Instr) (st : List Value) : Option (List Value) := match ins with
  | .invokestatic k => if k = 1000 then s2i (fun x y => some (.int (if x < y then y else x))) st else if k = 1001 then s2i (fun x y => some (.int (if y < x then y else x))) st else if k = 1002 then s1i (fun x => .int (if 0 ≤ x then x else 0 - x)) st else none
  | .invokespecial k => if k = 2000 then (match st with
    | .ref _ :: r => some r
    | _ => none) else none
  | _ => none
/-- how many arguments, whose class: of the methods by number -/
def sPop (n : Nat) (st : List Value) : Option (List Value × List Value) := if n ≤ st.length then some ((st.take n).reverse, st.drop n) else none
def sCal (nA ow : Nat → Nat) (vt : Nat → Nat → Nat) (ins : Instr) (st : List Value) (h : sHp) : Option (Nat × List Value × List Value) := match ins with
  | .invokestatic k => (sPop (nA k) st).map (fun q => (k, q.1, q.2))
  | .invokespecial k => (sPop (nA k) st).bind (fun q => match q.2 with
    | .ref b :: r => (match h[b]? with
      | some (.inr _) => some (k, .ref b :: q.1, r)
      | _ => none)
    | _ => none)
  | .invokevirtual k => if k < 1000 then (sPop (nA k) st).bind (fun q => match q.2 with
    | .ref b :: r => (match h[b]? with
      | some (.inr (ci, _)) => if ci = ow k then some (k, .ref b :: q.1, r) else none
      | _ => none)
    | _ => none) else (sPop (vt k 100) st).bind (fun q => match q.2 with
    | .ref b :: r => (match h[b]? with
      | some (.inr (ci, _)) => if sGrp ci = 2 ∧ ci < 11 then some (vt k ci, .ref b :: q.1, r) else none
      | _ => none)
    | _ => none)
  | .invokeinterface k _ => (sPop (k - 3000) st).bind (fun q => match q.2 with
    | .ref a :: r => if 2000000 ≤ a ∧ a < 2000007 then some (k - 2700, .ref a :: q.1, r) else none
    | _ => none)
  | _ => none
def sKnd (ins : Instr) : Nat := match ins with
  | .iload _ => 1
  | .iload_n _ => 1
  | .lload _ => 1
  | .lload_n _ => 1
  | .aload _ => 1
  | .aload_n _ => 1
  | .istore _ => 1
  | .istore_n _ => 1
  | .lstore _ => 1
  | .lstore_n _ => 1
  | .astore _ => 1
  | .astore_n _ => 1
  | .iinc _ _ => 1
  | .getfield _ => 2
  | .putfield _ => 2
  | .iaload => 2
  | .baload => 2
  | .laload => 2
  | .aaload => 2
  | .iastore => 2
  | .bastore => 2
  | .lastore => 2
  | .aastore => 2
  | .arraylength => 2
  | .new _ => 2
  | .newarray _ => 2
  | .anewarray _ => 2
  | .multianewarray _ _ => 2
  | .ldc2_w _ => 2
  | .ldc _ => 2
  | .ldc_w _ => 2
  | .goto _ => 3
  | .if_icmp _ _ => 3
  | .ifCond _ _ => 3
  | .ifnull _ => 3
  | .ifnonnull _ => 3
  | .tableswitch _ _ _ _ => 3
  | .lookupswitch _ _ => 3
  | .ireturn => 4
  | .lreturn => 4
  | .areturn => 4
  | .return_ => 4
  | .invokestatic k => if k < 1000 then 5 else if k = 1003 then 2 else 6
  | .invokeinterface _ _ => 5
  | .invokespecial k => if k < 1000 then 5 else 6
  | .invokevirtual _ => 5
  | _ => 0
abbrev sOr : Type := Option (Option Value × sHp)
def sRun (X : sX) (F : Nat → Option Instr) (rt : Option FieldType) (cal : Instr → List Value → sHp → Option (Nat × List Value × List Value)) (call : Nat → List Value → sHp → sOr) : Nat → Nat → sLo → List Value → sHp → sOr
  | 0, _, _, _, _ => none
  | n + 1, pc, L, st, h => (match F pc with
    | none => none
    | some ins => (match sKnd ins with
      | 0 => (sPure ins st).bind fun st1 => sRun X F rt cal call n (pc + sLen ins) L st1 h
      | 1 => (sLoc ins L st).bind fun q => sRun X F rt cal call n (pc + sLen ins) q.1 q.2 h
      | 2 => (match sScr X ins st with
        | some st1 => sRun X F rt cal call n (pc + sLen ins) L st1 h
        | none => (sHeap ins st h).bind fun q => sRun X F rt cal call n (pc + sLen ins) L q.1 q.2)
      | 3 => (sJmp ins pc st).bind fun q => sRun X F rt cal call n q.1 L q.2 h
      | 4 => (sRet rt ins st).map fun v => (v, h)
      | 5 => (cal ins st h).bind fun q => if (q.2.2.map (fun v => v.category)).sum ≤ 8 then (call q.1 q.2.1 h).bind fun z => sRun X F rt cal call n (pc + 3) L (z.1.toList ++ q.2.2) z.2 else none
      | _ => if (st.map (fun v => v.category)).sum ≤ 10 then (sSpec ins st).bind fun st1 => sRun X F rt cal call n (pc + 3) L st1 h else none))
/-- the locals with which a method begins -/
def sIniA : List Value → sLo
  | [] => []
  | v :: vs => if v.category = 2 then some v :: none :: sIniA vs else some v :: sIniA vs
def sNd (v : Value) : Bool := match v with
  | .double _ => false
  | _ => true
def sIni (nL : Nat) (as : List Value) : Option sLo := if as.all sNd = true ∧ (sIniA as).length ≤ nL then some (sIniA as ++ List.replicate (nL - (sIniA as).length) none) else none
