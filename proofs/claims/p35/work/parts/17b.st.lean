/-! stack -/
def aB (ins : Instr) : Option (Nat × Nat × (tM → tM → tM)) := match ins with
  | .iadd => some (0, 0, .add)
  | .isub => some (0, 0, .sub)
  | .imul => some (0, 0, .mul)
  | .idiv => some (0, 0, .div)
  | .irem => some (0, 0, .rem)
  | .iand => some (0, 0, .op2 .iand)
  | .ior => some (0, 0, .op2 .ior)
  | .ixor => some (0, 0, .op2 .ixor)
  | .ishl => some (0, 0, .op2 .ishl)
  | .ishr => some (0, 0, .op2 .ishr)
  | .ladd => some (1, 1, .op2 .ladd)
  | .lsub => some (1, 1, .op2 .lsub)
  | .land => some (1, 1, .op2 .land)
  | .lor => some (1, 1, .op2 .lor)
  | .lxor => some (1, 1, .op2 .lxor)
  | .lcmp => some (1, 1, .op2 .lcmp)
  | .lshl => some (0, 1, .op2 .lshl)
  | .lshr => some (0, 1, .op2 .lshr)
  | .lushr => some (0, 1, .op2 .lushr)
  | _ => none
def aU (ins : Instr) : Option (Nat × (tM → tM)) := match ins with
  | .ineg => some (0, .op1 .ineg)
  | .lneg => some (1, .op1 .lneg)
  | .i2l => some (0, .op1 .i2l)
  | .l2i => some (1, .op1 .l2i)
  | .i2b => some (0, .op1 .i2b)
  | .i2s => some (0, .op1 .i2s)
  | .i2c => some (0, .op1 .i2c)
  | _ => none
def aK (ins : Instr) : Option tM := match ins with
  | .iconst n => some (.int (Int32.ofInt n))
  | .bipush n => some (.int (Int8.ofInt n).toInt32)
  | .sipush n => some (.int (Int16.ofInt n).toInt32)
  | .lconst n => some (.long (Int64.ofNat (n : Nat)))
  | .aconst_null => some .null
  | _ => none
def aDiv (ins : Instr) : Bool := match ins with
  | .idiv => true
  | .irem => true
  | _ => false
def a1 (t : tM) : Bool := !(Nat.beq (kT t) 1)
def aDx (ins : Instr) (st : List tM) : Option (List tM) := match ins with
  | .dup => (match st with
    | a :: r => if a1 a = true then some (a :: a :: r) else none
    | _ => none)
  | .dup_x1 => (match st with
    | a :: b :: r => if a1 a = true ∧ a1 b = true then some (a :: b :: a :: r) else none
    | _ => none)
  | .dup2 => (match st with
    | a :: b :: r => if a1 a = true ∧ a1 b = true then some (a :: b :: a :: b :: r) else none
    | _ => none)
  | .pop => (match st with
    | a :: r => if a1 a = true then some r else none
    | _ => none)
  | _ => none
def aPure (ins : Instr) (G : aG) (st : List tM) : Option (List tM) := match aK ins with
  | some t => some (t :: st)
  | none => (match aB ins with
    | some (ky, kx, b) => (match st with
      | y :: x :: r => if kT y = ky ∧ kT x = kx ∧ (aDiv ins = true → 0 < (aIv 6 G y).1 ∨ (aIv 6 G y).2 < 0) then some (aFo (b (aNm G x) (aNm G y)) :: r) else none
      | _ => none)
    | none => (match aU ins with
      | some (kx, u) => (match st with
        | x :: r => if kT x = kx then some (aFo (u (aNm G x)) :: r) else none
        | _ => none)
      | none => aDx ins st))
abbrev eS (ι : aIn) (st : List tM) : List Value := st.map (eT ι)
theorem a1_cat {ι : aIn} {t : tM} (h : a1 t = true) : (eT ι t).category = 1 := by
  rw [eT_cat, if_neg]
  intro e
  unfold a1 at h
  rw [e] at h
  cases h
theorem aDiv_ok {ι : aIn} {G : aG} (h : aOk ι G) {y : tM} (hy : 0 < (aIv 6 G y).1 ∨ (aIv 6 G y).2 < 0) : ¬ vI (eT ι y) = 0 := by
  intro e
  have h1 := aIv_ok h 6 y
  unfold aW aZ at h1
  rw [e] at h1
  have h2 : (0 : Int32).toInt = 0 := by decide
  rw [h2] at h1
  omega
theorem aK_ok (ι : aIn) {ins : Instr} {t : tM} (h : aK ins = some t) (r : List Value) : sPure ins r = some (eT ι t :: r) := by
  unfold aK at h
  split at h <;> cases h <;> rfl
theorem aDx_ok (ι : aIn) {ins : Instr} {st st1 : List tM} (h : aDx ins st = some st1) : sPure ins (eS ι st) = some (eS ι st1) := by
  unfold aDx at h
  split at h
  · split at h
    · split at h
      · rename_i ha
        cases h
        exact if_pos (a1_cat ha)
      · cases h
    · cases h
  · split at h
    · split at h
      · rename_i ha
        cases h
        exact if_pos ⟨a1_cat ha.1, a1_cat ha.2⟩
      · cases h
    · cases h
  · split at h
    · split at h
      · rename_i ha
        cases h
        exact if_pos ⟨a1_cat ha.1, a1_cat ha.2⟩
      · cases h
    · cases h
  · split at h
    · split at h
      · rename_i ha
        cases h
        exact if_pos (a1_cat ha)
      · cases h
    · cases h
  · cases h
theorem aB_nm {ins : Instr} {ky kx : Nat} {b : tM → tM → tM} (h : aB ins = some (ky, kx, b)) {ι : aIn} {G : aG} (hG : aOk ι G) (x y : tM) : eT ι (b (aNm G x) (aNm G y)) = eT ι (b x y) := by
  unfold aB at h
  split at h <;> cases h <;> simp only [eT, aNm_ok hG]
theorem aU_nm {ins : Instr} {kx : Nat} {u : tM → tM} (h : aU ins = some (kx, u)) {ι : aIn} {G : aG} (hG : aOk ι G) (x : tM) : eT ι (u (aNm G x)) = eT ι (u x) := by
  unfold aU at h
  split at h <;> cases h <;> simp only [eT, aNm_ok hG]
theorem aB_ok {ι : aIn} {ins : Instr} {ky kx : Nat} {b : tM → tM → tM} (h : aB ins = some (ky, kx, b)) {x y : tM} (hy : kT y = ky) (hx : kT x = kx) (hd : aDiv ins = true → ¬ vI (eT ι y) = 0) (r : List Value) : sPure ins (eT ι y :: eT ι x :: r) = some (eT ι (b x y) :: r) := by
  unfold aB at h
  split at h
  case h_20 => cases h
  case h_4 =>
    cases h
    rw [kT_0 hx, kT_0 hy]
    show (if vI (eT ι y) = 0 then none else some (Value.int (vI (eT ι x) / vI (eT ι y)))).map (fun v => v :: r) = _
    rw [if_neg (hd rfl)]
    rfl
  case h_5 =>
    cases h
    rw [kT_0 hx, kT_0 hy]
    show (if vI (eT ι y) = 0 then none else some (Value.int (vI (eT ι x) - vI (eT ι x) / vI (eT ι y) * vI (eT ι y)))).map (fun v => v :: r) = _
    rw [if_neg (hd rfl)]
    rfl
  all_goals
    cases h
    first
    | (rw [kT_0 hx, kT_0 hy]; rfl)
    | (rw [kT_1 hx, kT_1 hy]; rfl)
    | (rw [kT_1 hx, kT_0 hy]; rfl)
theorem aU_ok {ι : aIn} {ins : Instr} {kx : Nat} {u : tM → tM} (h : aU ins = some (kx, u)) {x : tM} (hx : kT x = kx) (r : List Value) : sPure ins (eT ι x :: r) = some (eT ι (u x) :: r) := by
  unfold aU at h
  split at h <;> cases h
  all_goals first | (rw [kT_0 hx]; rfl) | (rw [kT_1 hx]; rfl)
theorem aPure_ok {ι : aIn} {ins : Instr} {G : aG} {st st1 : List tM} (h : aPure ins G st = some st1) (hG : aOk ι G) : sPure ins (eS ι st) = some (eS ι st1) := by
  unfold aPure at h
  split at h
  · rename_i t ht
    cases h
    exact aK_ok ι ht _
  · split at h
    · rename_i ky kx b hb
      split at h
      · rename_i y x r
        split at h
        · rename_i hc
          cases h
          show sPure ins (eT ι y :: eT ι x :: eS ι r) = some (eT ι (aFo (b (aNm G x) (aNm G y))) :: eS ι r)
          rw [aFo_ok, aB_nm hb hG]
          exact aB_ok hb hc.1 hc.2.1 (fun hd => aDiv_ok hG (hc.2.2 hd)) _
        · cases h
      · cases h
    · split at h
      · rename_i kx u hu
        split at h
        · rename_i x r
          split at h
          · rename_i hc
            cases h
            show sPure ins (eT ι x :: eS ι r) = some (eT ι (aFo (u (aNm G x))) :: eS ι r)
            rw [aFo_ok, aU_nm hu hG]
            exact aU_ok hu hc _
          · cases h
        · cases h
      · exact aDx_ok ι h
/-! locals -/
abbrev aLo : Type := List (Option tM)
abbrev eL (ι : aIn) (L : aLo) : sLo := L.map (fun o => o.map (eT ι))
def aNth {α : Type} : List α → Nat → Option α
  | [], _ => none
  | a :: r, n => match n with
    | 0 => some a
    | m + 1 => aNth r m
theorem aNth_eq {α : Type} : ∀ (l : List α) (n : Nat), aNth l n = l[n]? := by
  intro l
  induction l with
  | nil => intro n; rfl
  | cons a r ih =>
    intro n
    cases n with
    | zero => rfl
    | succ m => exact ih m
theorem eL_at (ι : aIn) (L : aLo) (i : Nat) : (eL ι L)[i]? = (aNth L i).map (fun o => o.map (eT ι)) := by
  rw [aNth_eq]
  exact List.getElem?_map
def aLd (ins : Instr) : Option (Nat × Nat) := match ins with
  | .iload i => some (i, 0)
  | .iload_n i => some (i, 0)
  | .lload i => some (i, 1)
  | .lload_n i => some (i, 1)
  | .aload i => some (i, 2)
  | .aload_n i => some (i, 2)
  | _ => none
def aSto (ins : Instr) : Option (Nat × Nat) := match ins with
  | .istore i => some (i, 0)
  | .istore_n i => some (i, 0)
  | .lstore i => some (i, 1)
  | .lstore_n i => some (i, 1)
  | .astore i => some (i, 2)
  | .astore_n i => some (i, 2)
  | _ => none
def aIc (ins : Instr) : Option (Nat × Int) := match ins with
  | .iinc i n => some (i, n)
  | _ => none
def aIsL (o : Option (Option tM)) : Bool := match o with
  | some (some t) => Nat.beq (kT t) 1
  | _ => false
def aKill (L : aLo) (i : Nat) : aLo := match i with
  | 0 => L
  | j + 1 => bif aIsL (aNth L j) then L.set j none else L
def aPut (L : aLo) (i : Nat) (t : tM) : aLo := (aKill L i).set i (some t)
def aPutL (L : aLo) (i : Nat) (t : tM) : aLo := (aPut L i t).set (i + 1) none
theorem aIsL_ok (ι : aIn) (L : aLo) (j : Nat) : sIsL (eL ι L)[j]? = aIsL (aNth L j) := by
  rw [eL_at]
  cases h : aNth L j with
  | none => rfl
  | some o =>
    cases o with
    | none => rfl
    | some t =>
      show sIsL (some (some (eT ι t))) = Nat.beq (kT t) 1
      by_cases hk : kT t = 1
      · rw [kT_1 hk, hk]; rfl
      · cases he : eT ι t with
        | long x => exact absurd (kT_eT he) hk
        | _ =>
          symm
          show Nat.beq (kT t) 1 = false
          cases hb : Nat.beq (kT t) 1 with
          | false => rfl
          | true => exact absurd (Nat.eq_of_beq_eq_true hb) hk
theorem aKill_ok (ι : aIn) (L : aLo) (i : Nat) : eL ι (aKill L i) = sKill (eL ι L) i := by
  cases i with
  | zero => rfl
  | succ j =>
    show eL ι (bif aIsL (aNth L j) then L.set j none else L) = if sIsL (eL ι L)[j]? = true then (eL ι L).set j none else eL ι L
    rw [aIsL_ok]
    cases aIsL (aNth L j) with
    | false => rfl
    | true => exact List.map_set
theorem aPut_ok (ι : aIn) (L : aLo) (i : Nat) (t : tM) : eL ι (aPut L i t) = sPut (eL ι L) i (eT ι t) := by
  unfold aPut sPut
  rw [← aKill_ok]
  exact List.map_set
theorem aPutL_ok (ι : aIn) (L : aLo) (i : Nat) (t : tM) : eL ι (aPutL L i t) = sPutL (eL ι L) i (eT ι t) := by
  unfold aPutL sPutL
  rw [← aPut_ok]
  exact List.map_set
def aLdS (p : Nat × Nat) (L : aLo) (st : List tM) : Option (aLo × List tM) := match aNth L p.1 with
  | some (some t) => if kT t = p.2 then some (L, t :: st) else none
  | _ => none
def aStS (p : Nat × Nat) (L : aLo) (st : List tM) : Option (aLo × List tM) := match st with
  | t :: r => if kT t = p.2 then (if p.2 = 1 then (if p.1 + 1 < L.length then some (aPutL L p.1 t, r) else none) else (if p.1 < L.length then some (aPut L p.1 t, r) else none)) else none
  | _ => none
def aIcS (p : Nat × Int) (G : aG) (L : aLo) (st : List tM) : Option (aLo × List tM) := match aNth L p.1 with
  | some (some t) => if kT t = 0 then (match aFo (.add (aNm G t) (.int (Int32.ofInt p.2))) with
    | .int x => some (aPut L p.1 (.int x), st)
    | t1 => some (aPut L p.1 t1, st)) else none
  | _ => none
def aLoc (ins : Instr) (G : aG) (L : aLo) (st : List tM) : Option (aLo × List tM) := match aLd ins with
  | some p => aLdS p L st
  | none => (match aSto ins with
    | some p => aStS p L st
    | none => (match aIc ins with
      | some p => aIcS p G L st
      | none => none))
theorem aLd_ok {ι : aIn} {ins : Instr} {p : Nat × Nat} (hp : aLd ins = some p) {L L1 : aLo} {st st1 : List tM} (h : aLdS p L st = some (L1, st1)) : sLoc ins (eL ι L) (eS ι st) = some (eL ι L1, eS ι st1) := by
  unfold aLdS at h
  split at h
  · rename_i t ht
    split at h
    · rename_i hk
      cases h
      have hl : (eL ι L)[p.1]? = some (some (eT ι t)) := by rw [eL_at, ht]; rfl
      unfold aLd at hp
      split at hp <;> cases hp
      · show sLdI _ _ _ = _
        unfold sLdI
        dsimp only at hl hk
        show _ = some (_, eT ι t :: _)
        rw [hl, kT_0 hk]
        (try rfl)
      · show sLdI _ _ _ = _
        unfold sLdI
        dsimp only at hl hk
        show _ = some (_, eT ι t :: _)
        rw [hl, kT_0 hk]
        (try rfl)
      · show sLdL _ _ _ = _
        unfold sLdL
        dsimp only at hl hk
        show _ = some (_, eT ι t :: _)
        rw [hl, kT_1 hk]
        (try rfl)
      · show sLdL _ _ _ = _
        unfold sLdL
        dsimp only at hl hk
        show _ = some (_, eT ι t :: _)
        rw [hl, kT_1 hk]
        (try rfl)
      · show sLdA _ _ _ = _
        unfold sLdA
        dsimp only at hl hk
        rw [hl]
        rcases kT_2 (ι := ι) hk with ⟨k, rfl⟩ | rfl <;> rfl
      · show sLdA _ _ _ = _
        unfold sLdA
        dsimp only at hl hk
        rw [hl]
        rcases kT_2 (ι := ι) hk with ⟨k, rfl⟩ | rfl <;> rfl
    · cases h
  · cases h
theorem aSt_i {ι : aIn} {L L1 : aLo} {st st1 : List tM} {i : Nat} (h : aStS (i, 0) L st = some (L1, st1)) : sStI (eL ι L) i (eS ι st) = some (eL ι L1, eS ι st1) := by
  unfold aStS at h
  split at h
  · rename_i t r
    dsimp only at h
    split at h
    · rename_i hk
      rw [if_neg (by decide)] at h
      split at h
      · rename_i hl
        cases h
        show sStI _ _ (eT ι t :: eS ι st1) = _
        rw [aPut_ok, kT_0 hk]
        exact if_pos (by rw [List.length_map]; exact hl)
      · cases h
    · cases h
  · cases h
theorem aSt_l {ι : aIn} {L L1 : aLo} {st st1 : List tM} {i : Nat} (h : aStS (i, 1) L st = some (L1, st1)) : sStL (eL ι L) i (eS ι st) = some (eL ι L1, eS ι st1) := by
  unfold aStS at h
  split at h
  · rename_i t r
    dsimp only at h
    split at h
    · rename_i hk
      rw [if_pos rfl] at h
      split at h
      · rename_i hl
        cases h
        show sStL _ _ (eT ι t :: eS ι st1) = _
        rw [aPutL_ok, kT_1 hk]
        exact if_pos (by rw [List.length_map]; exact hl)
      · cases h
    · cases h
  · cases h
theorem aSt_a {ι : aIn} {L L1 : aLo} {st st1 : List tM} {i : Nat} (h : aStS (i, 2) L st = some (L1, st1)) : sStA (eL ι L) i (eS ι st) = some (eL ι L1, eS ι st1) := by
  unfold aStS at h
  split at h
  · rename_i t r
    dsimp only at h
    split at h
    · rename_i hk
      rw [if_neg (by decide)] at h
      split at h
      · rename_i hl
        cases h
        show sStA _ _ (eT ι t :: eS ι st1) = _
        rw [aPut_ok]
        rcases kT_2 (ι := ι) hk with ⟨k, rfl⟩ | rfl
        · exact if_pos (by rw [List.length_map]; exact hl)
        · exact if_pos (by rw [List.length_map]; exact hl)
      · cases h
    · cases h
  · cases h
theorem aLoc_ok {ι : aIn} {ins : Instr} {G : aG} {L L1 : aLo} {st st1 : List tM} (h : aLoc ins G L st = some (L1, st1)) (hG : aOk ι G) : sLoc ins (eL ι L) (eS ι st) = some (eL ι L1, eS ι st1) := by
  unfold aLoc at h
  split at h
  · rename_i p hp
    exact aLd_ok hp h
  · split at h
    · rename_i p hp
      unfold aSto at hp
      split at hp <;> cases hp
      · exact aSt_i h
      · exact aSt_i h
      · exact aSt_l h
      · exact aSt_l h
      · exact aSt_a h
      · exact aSt_a h
    · split at h
      · rename_i p hp
        unfold aIc at hp
        split at hp
        · rename_i i n _ _
          cases hp
          unfold aIcS at h
          split at h
          · rename_i t ht
            split at h
            · rename_i hk
              have h2 : L1 = aPut L i (aFo (.add (aNm G t) (.int (Int32.ofInt n)))) ∧ st1 = st := by
                split at h
                · rename_i x hx
                  cases h
                  exact ⟨by rw [hx], rfl⟩
                · cases h
                  exact ⟨rfl, rfl⟩
              obtain ⟨rfl, rfl⟩ := h2
              show sInc _ _ _ _ = _
              unfold sInc
              dsimp only at ht
              rw [eL_at, ht]
              show (match some (some (eT ι t)) with
                | some (some (.int x)) => some (sPut (eL ι L) i (.int (x + Int32.ofInt n)), eS ι st1)
                | _ => none) = _
              rw [aPut_ok, aFo_ok]
              show _ = some (sPut (eL ι L) i (.int (vI (eT ι (aNm G t)) + Int32.ofInt n)), _)
              rw [aNm_ok hG, kT_0 hk]
              rfl
            · cases h
          · cases h
        · cases hp
      · cases h
