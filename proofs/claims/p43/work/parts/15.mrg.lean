section
/-! ===== walking the simple machine ===== -/
def sUp (f g : Nat → List Value → sHp → sOr) : Prop := ∀ (k : Nat) (as : List Value) (h : sHp) (z : Option Value × sHp), f k as h = some z → g k as h = some z
theorem sRun_up {X : sX} {F : Nat → Option Instr} {rt : Option FieldType} {cal : Instr → List Value → sHp → Option (Nat × List Value × List Value)} {f g : Nat → List Value → sHp → sOr} (hfg : sUp f g) :
    ∀ (n n' : Nat), n ≤ n' → ∀ (pc : Nat) (L : sLo) (st : List Value) (h : sHp) (z : Option Value × sHp), sRun X F rt cal f n pc L st h = some z → sRun X F rt cal g n' pc L st h = some z := by
  intro n
  induction n with
  | zero => intro n' _ pc L st h z hr; cases hr
  | succ n ih =>
    intro n' hn pc L st h z hr
    obtain ⟨m, rfl⟩ : ∃ m, n' = m + 1 := ⟨n' - 1, by omega⟩
    have hm : n ≤ m := by omega
    rw [sRun] at hr ⊢
    cases hF : F pc with
    | none => rw [hF] at hr; cases hr
    | some ins =>
      rw [hF] at hr
      dsimp only at hr ⊢
      generalize sKnd ins = kd at hr ⊢
      match kd, hr with
      | 0, hr =>
        obtain ⟨st1, h1, h2⟩ := Option.bind_eq_some_iff.mp hr
        exact Option.bind_eq_some_iff.mpr ⟨st1, h1, ih m hm _ _ _ _ _ h2⟩
      | 1, hr =>
        obtain ⟨st1, h1, h2⟩ := Option.bind_eq_some_iff.mp hr
        exact Option.bind_eq_some_iff.mpr ⟨st1, h1, ih m hm _ _ _ _ _ h2⟩
      | 2, hr =>
        have h3 : (match sScr X ins st with
          | some st1 => sRun X F rt cal f n (pc + sLen ins) L st1 h
          | none => (sHeap ins st h).bind fun q => sRun X F rt cal f n (pc + sLen ins) L q.1 q.2) = some z := hr
        show (match sScr X ins st with
          | some st1 => sRun X F rt cal g m (pc + sLen ins) L st1 h
          | none => (sHeap ins st h).bind fun q => sRun X F rt cal g m (pc + sLen ins) L q.1 q.2) = some z
        cases hs : sScr X ins st with
        | some st1 =>
          rw [hs] at h3
          exact ih m hm _ _ _ _ _ h3
        | none =>
          rw [hs] at h3
          obtain ⟨st1, h1, h2⟩ := Option.bind_eq_some_iff.mp h3
          exact Option.bind_eq_some_iff.mpr ⟨st1, h1, ih m hm _ _ _ _ _ h2⟩
      | 3, hr =>
        obtain ⟨st1, h1, h2⟩ := Option.bind_eq_some_iff.mp hr
        exact Option.bind_eq_some_iff.mpr ⟨st1, h1, ih m hm _ _ _ _ _ h2⟩
      | 4, hr => exact hr
      | 5, hr =>
        obtain ⟨q, h1, h2⟩ := Option.bind_eq_some_iff.mp hr
        refine Option.bind_eq_some_iff.mpr ⟨q, h1, ?_⟩
        split at h2
        · rename_i hc
          rw [if_pos hc]
          obtain ⟨y, h3, h4⟩ := Option.bind_eq_some_iff.mp h2
          exact Option.bind_eq_some_iff.mpr ⟨y, hfg _ _ _ _ h3, ih m hm _ _ _ _ _ h4⟩
        · cases h2
      | j + 6, hr =>
        have h3 : (if (st.map (fun v => v.category)).sum ≤ 10 then (sSpec ins st).bind fun st1 => sRun X F rt cal f n (pc + 3) L st1 h else none) = some z := hr
        show (if (st.map (fun v => v.category)).sum ≤ 10 then (sSpec ins st).bind fun st1 => sRun X F rt cal g m (pc + 3) L st1 h else none) = some z
        by_cases hc : (st.map (fun v => v.category)).sum ≤ 10
        · rw [if_pos hc] at h3 ⊢
          obtain ⟨st1, h1, h2⟩ := Option.bind_eq_some_iff.mp h3
          exact Option.bind_eq_some_iff.mpr ⟨st1, h1, ih m hm _ _ _ _ _ h2⟩
        · rw [if_neg hc] at h3
          cases h3
theorem sCall_up : ∀ (d n n' : Nat), n ≤ n' → sUp (sCall d n) (sCall d n') := by
  intro d
  induction d with
  | zero => intro n n' _ k as h z hr; cases hr
  | succ d ih =>
    intro n n' hn k as h z hr
    rw [sCall] at hr ⊢
    by_cases hk : 300 ≤ k
    · rw [if_pos hk] at hr ⊢
      exact hr
    rw [if_neg hk] at hr ⊢
    obtain ⟨q, h1, h2⟩ := Option.bind_eq_some_iff.mp hr
    obtain ⟨L, h3, h4⟩ := Option.bind_eq_some_iff.mp h2
    exact Option.bind_eq_some_iff.mpr ⟨q, h1, Option.bind_eq_some_iff.mpr ⟨L, h3, sRun_up (ih n n' hn) n n' hn _ _ _ _ _ h4⟩⟩
theorem sStC_up {d k : Nat} {as : List Value} {h : sHp} {z : Option Value × sHp} (hr : sStC d k as h = some z) : sStC (d + 1) k as h = some z := by
  unfold sStC at hr ⊢
  split at hr
  · split at hr
    · rename_i hg
      rw [if_pos ⟨hg.1, by omega, hg.2.2⟩]
      exact hr
    · cases hr
  · split at hr
    · rename_i hg
      rw [if_pos ⟨hg.1, by omega, hg.2.2⟩]
      exact hr
    · cases hr
  · cases hr
theorem sM_lt {k : Nat} {q : sMt} (h : sM k = some q) : k < 300 := by
  have h1 := (List.getElem?_eq_some_iff.mp h).1
  have e : sMs.length = 259 := by decide +kernel
  omega
theorem sCall_dp : ∀ (d n : Nat), sUp (sCall d n) (sCall (d + 1) n) := by
  intro d
  induction d with
  | zero => intro n k as h z hr; cases hr
  | succ d ih =>
    intro n k as h z hr
    rw [sCall] at hr ⊢
    by_cases hk : 300 ≤ k
    · rw [if_pos hk] at hr ⊢
      exact sStC_up hr
    rw [if_neg hk] at hr ⊢
    obtain ⟨q, h1, h2⟩ := Option.bind_eq_some_iff.mp hr
    obtain ⟨L, h3, h4⟩ := Option.bind_eq_some_iff.mp h2
    exact Option.bind_eq_some_iff.mpr ⟨q, h1, Option.bind_eq_some_iff.mpr ⟨L, h3, sRun_up (ih n) n n (Nat.le_refl n) _ _ _ _ _ h4⟩⟩
def sFk (k pc : Nat) : Option Instr := (sM k).bind (fun q => sFt q pc)
def sNk (k : Nat) : Option Nat := (sM k).map mN
def sRk (k : Nat) : Option (Option FieldType) := (sM k).map mR
def sGo (X : sX) (k d pc : Nat) (L : sLo) (st : List Value) (h : sHp) (Q : Option Value → sHp → Prop) : Prop := ∃ (q : sMt) (nf n : Nat) (v : Option Value) (h' : sHp), sM k = some q ∧ sRun X (sFt q) (mR q) (sCal sNA sOwn sVt) (sCall d nf) n pc L st h = some (v, h') ∧ Q v h'
def sDo (d k : Nat) (as : List Value) (h : sHp) (Q : Option Value → sHp → Prop) : Prop := ∃ (nf : Nat) (r : Option Value) (h' : sHp), sCall d nf k as h = some (r, h') ∧ Q r h'
theorem sDo_up {d d' k : Nat} {as : List Value} {h : sHp} {Q : Option Value → sHp → Prop} (hd : d ≤ d') (g : sDo d k as h Q) : sDo d' k as h Q := by
  obtain ⟨nf, r, h', h1, h2⟩ := g
  refine ⟨nf, r, h', ?_, h2⟩
  obtain ⟨j, rfl⟩ : ∃ j, d' = d + j := ⟨d' - d, by omega⟩
  clear hd
  induction j with
  | zero => exact h1
  | succ j ih => exact sCall_dp _ _ _ _ _ _ ih
theorem sDo_mono {d k : Nat} {as : List Value} {h : sHp} {Q Q' : Option Value → sHp → Prop} (g : sDo d k as h Q) (hq : ∀ r h', Q r h' → Q' r h') : sDo d k as h Q' := by
  obtain ⟨nf, r, h', h1, h2⟩ := g
  exact ⟨nf, r, h', h1, hq r h' h2⟩
theorem sGo_mono {X : sX} {k d pc : Nat} {L : sLo} {st : List Value} {h : sHp} {Q Q' : Option Value → sHp → Prop} (g : sGo X k d pc L st h Q) (hq : ∀ r h', Q r h' → Q' r h') : sGo X k d pc L st h Q' := by
  obtain ⟨q, nf, n, v, h', h1, h2, h3⟩ := g
  exact ⟨q, nf, n, v, h', h1, h2, hq v h' h3⟩
theorem sDo_of {d k nL : Nat} {as : List Value} {h : sHp} {Q : Option Value → sHp → Prop} {L : sLo} (hn : sNk k = some nL) (hi : sIni nL as = some L) (g : sGo none k d 0 L [] h Q) : sDo (d + 1) k as h Q := by
  obtain ⟨q, nf, n, v, h', hq, hr, hQ⟩ := g
  refine ⟨nf + n, v, h', ?_, hQ⟩
  have hlt := sM_lt hq
  rw [sCall, if_neg (by omega)]
  have hnq : mN q = nL := by
    unfold sNk at hn
    rw [hq] at hn
    exact Option.some.inj hn
  refine Option.bind_eq_some_iff.mpr ⟨q, hq, Option.bind_eq_some_iff.mpr ⟨L, by rw [hnq]; exact hi, ?_⟩⟩
  exact sRun_up (sCall_up d nf (nf + n) (by omega)) n (nf + n) (by omega) _ _ _ _ _ hr
section GO
variable {X : sX} {k d pc : Nat} {L : sLo} {st : List Value} {h : sHp} {Q : Option Value → sHp → Prop} {ins : Instr}
theorem sFk_at {q : sMt} (hq : sM k = some q) (hF : sFk k pc = some ins) : sFt q pc = some ins := by
  unfold sFk at hF
  rw [hq] at hF
  exact hF
theorem go_pure {st1 : List Value} (hF : sFk k pc = some ins) (hk : sKnd ins = 0) (h1 : sPure ins st = some st1) (g : sGo X k d (pc + sLen ins) L st1 h Q) : sGo X k d pc L st h Q := by
  obtain ⟨q, nf, n, v, h', hq, hr, hQ⟩ := g
  refine ⟨q, nf, n + 1, v, h', hq, ?_, hQ⟩
  rw [sRun, sFk_at hq hF]
  dsimp only
  rw [hk]
  exact Option.bind_eq_some_iff.mpr ⟨st1, h1, hr⟩
theorem go_loc {L1 : sLo} {st1 : List Value} (hF : sFk k pc = some ins) (hk : sKnd ins = 1) (h1 : sLoc ins L st = some (L1, st1)) (g : sGo X k d (pc + sLen ins) L1 st1 h Q) : sGo X k d pc L st h Q := by
  obtain ⟨q, nf, n, v, h', hq, hr, hQ⟩ := g
  refine ⟨q, nf, n + 1, v, h', hq, ?_, hQ⟩
  rw [sRun, sFk_at hq hF]
  dsimp only
  rw [hk]
  exact Option.bind_eq_some_iff.mpr ⟨(L1, st1), h1, hr⟩
theorem go_heap {st1 : List Value} {h1 : sHp} (hF : sFk k pc = some ins) (hk : sKnd ins = 2) (hs : sScr X ins st = none) (hh : sHeap ins st h = some (st1, h1)) (g : sGo X k d (pc + sLen ins) L st1 h1 Q) : sGo X k d pc L st h Q := by
  obtain ⟨q, nf, n, v, h', hq, hr, hQ⟩ := g
  refine ⟨q, nf, n + 1, v, h', hq, ?_, hQ⟩
  rw [sRun, sFk_at hq hF]
  dsimp only
  rw [hk]
  try dsimp only
  rw [hs]
  exact Option.bind_eq_some_iff.mpr ⟨(st1, h1), hh, hr⟩
theorem go_scr {st1 : List Value} (hF : sFk k pc = some ins) (hk : sKnd ins = 2) (hs : sScr X ins st = some st1) (g : sGo X k d (pc + sLen ins) L st1 h Q) : sGo X k d pc L st h Q := by
  obtain ⟨q, nf, n, v, h', hq, hr, hQ⟩ := g
  refine ⟨q, nf, n + 1, v, h', hq, ?_, hQ⟩
  rw [sRun, sFk_at hq hF]
  dsimp only
  rw [hk]
  try dsimp only
  rw [hs]
  exact hr
theorem go_jmp {pc1 : Nat} {st1 : List Value} (hF : sFk k pc = some ins) (hk : sKnd ins = 3) (hj : sJmp ins pc st = some (pc1, st1)) (g : sGo X k d pc1 L st1 h Q) : sGo X k d pc L st h Q := by
  obtain ⟨q, nf, n, v, h', hq, hr, hQ⟩ := g
  refine ⟨q, nf, n + 1, v, h', hq, ?_, hQ⟩
  rw [sRun, sFk_at hq hF]
  dsimp only
  rw [hk]
  exact Option.bind_eq_some_iff.mpr ⟨(pc1, st1), hj, hr⟩
theorem go_ret {v : Option Value} {rt : Option FieldType} (hF : sFk k pc = some ins) (hk : sKnd ins = 4) (hrk : sRk k = some rt) (h1 : sRet rt ins st = some v) (hQ : Q v h) : sGo X k d pc L st h Q := by
  unfold sRk at hrk
  cases hq : sM k with
  | none => rw [hq] at hrk; cases hrk
  | some q =>
    rw [hq] at hrk
    have e : mR q = rt := Option.some.inj hrk
    refine ⟨q, 0, 1, v, h, hq, ?_, hQ⟩
    rw [sRun, sFk_at hq hF]
    dsimp only
    rw [hk, e]
    try dsimp only
    rw [h1]
    rfl
theorem go_spec {st1 : List Value} (hF : sFk k pc = some ins) (hk : sKnd ins = 6) (hcat : (st.map (fun v => v.category)).sum ≤ 10) (h1 : sSpec ins st = some st1) (g : sGo X k d (pc + 3) L st1 h Q) : sGo X k d pc L st h Q := by
  obtain ⟨q, nf, n, v, h', hq, hr, hQ⟩ := g
  refine ⟨q, nf, n + 1, v, h', hq, ?_, hQ⟩
  rw [sRun, sFk_at hq hF]
  dsimp only
  rw [hk]
  try dsimp only
  rw [if_pos hcat]
  exact Option.bind_eq_some_iff.mpr ⟨st1, h1, hr⟩
theorem go_call {k1 : Nat} {as rest : List Value} {Qc : Option Value → sHp → Prop} (hF : sFk k pc = some ins) (hk : sKnd ins = 5) (hc : sCal sNA sOwn sVt ins st h = some (k1, as, rest)) (hcat : (rest.map (fun v => v.category)).sum ≤ 8) (hD : sDo d k1 as h Qc) (g : ∀ (r : Option Value) (h1 : sHp), Qc r h1 → sGo X k d (pc + 3) L (r.toList ++ rest) h1 Q) : sGo X k d pc L st h Q := by
  obtain ⟨nc, r, h1, e1, hQc⟩ := hD
  obtain ⟨q, nf, n, v, h', hq, hr, hQ⟩ := g r h1 hQc
  refine ⟨q, nf + nc, n + 1, v, h', hq, ?_, hQ⟩
  rw [sRun, sFk_at hq hF]
  dsimp only
  rw [hk]
  refine Option.bind_eq_some_iff.mpr ⟨(k1, as, rest), hc, ?_⟩
  rw [if_pos hcat]
  refine Option.bind_eq_some_iff.mpr ⟨(r, h1), sCall_up d nc (nf + nc) (by omega) _ _ _ _ e1, ?_⟩
  exact sRun_up (sCall_up d nf (nf + nc) (by omega)) n n (Nat.le_refl n) _ _ _ _ _ hr

theorem g_iconst {n : Int} (hF : sFk k pc = some (.iconst n)) (g : sGo X k d (pc + 1) L (.int (Int32.ofInt n) :: st) h Q) : sGo X k d pc L (st) h Q := go_pure hF rfl rfl g
theorem g_bipush {n : Int} (hF : sFk k pc = some (.bipush n)) (g : sGo X k d (pc + 2) L (.int (Int8.ofInt n).toInt32 :: st) h Q) : sGo X k d pc L (st) h Q := go_pure hF rfl rfl g
theorem g_sipush {n : Int} (hF : sFk k pc = some (.sipush n)) (g : sGo X k d (pc + 3) L (.int (Int16.ofInt n).toInt32 :: st) h Q) : sGo X k d pc L (st) h Q := go_pure hF rfl rfl g
theorem g_lconst {n : Fin 2} (hF : sFk k pc = some (.lconst n)) (g : sGo X k d (pc + 1) L (.long (Int64.ofNat (n : Nat)) :: st) h Q) : sGo X k d pc L (st) h Q := go_pure hF rfl rfl g
theorem g_aconst_null (hF : sFk k pc = some (.aconst_null)) (g : sGo X k d (pc + 1) L (.null :: st) h Q) : sGo X k d pc L (st) h Q := go_pure hF rfl rfl g
theorem g_iadd {x y : Int32} (hF : sFk k pc = some (.iadd)) (g : sGo X k d (pc + 1) L (.int (x + y) :: st) h Q) : sGo X k d pc L (.int y :: .int x :: st) h Q := go_pure hF rfl rfl g
theorem g_isub {x y : Int32} (hF : sFk k pc = some (.isub)) (g : sGo X k d (pc + 1) L (.int (x - y) :: st) h Q) : sGo X k d pc L (.int y :: .int x :: st) h Q := go_pure hF rfl rfl g
theorem g_imul {x y : Int32} (hF : sFk k pc = some (.imul)) (g : sGo X k d (pc + 1) L (.int (x * y) :: st) h Q) : sGo X k d pc L (.int y :: .int x :: st) h Q := go_pure hF rfl rfl g
theorem g_iand {x y : Int32} (hF : sFk k pc = some (.iand)) (g : sGo X k d (pc + 1) L (.int (x &&& y) :: st) h Q) : sGo X k d pc L (.int y :: .int x :: st) h Q := go_pure hF rfl rfl g
theorem g_ior {x y : Int32} (hF : sFk k pc = some (.ior)) (g : sGo X k d (pc + 1) L (.int (x ||| y) :: st) h Q) : sGo X k d pc L (.int y :: .int x :: st) h Q := go_pure hF rfl rfl g
theorem g_ixor {x y : Int32} (hF : sFk k pc = some (.ixor)) (g : sGo X k d (pc + 1) L (.int (x ^^^ y) :: st) h Q) : sGo X k d pc L (.int y :: .int x :: st) h Q := go_pure hF rfl rfl g
theorem g_ishl {x y : Int32} (hF : sFk k pc = some (.ishl)) (g : sGo X k d (pc + 1) L (.int (x <<< (y &&& 31)) :: st) h Q) : sGo X k d pc L (.int y :: .int x :: st) h Q := go_pure hF rfl rfl g
theorem g_ishr {x y : Int32} (hF : sFk k pc = some (.ishr)) (g : sGo X k d (pc + 1) L (.int (x >>> (y &&& 31)) :: st) h Q) : sGo X k d pc L (.int y :: .int x :: st) h Q := go_pure hF rfl rfl g
theorem g_idiv {x y : Int32} (hF : sFk k pc = some (.idiv)) (h0 : ¬ y = 0) (g : sGo X k d (pc + 1) L (.int (x / y) :: st) h Q) : sGo X k d pc L (.int y :: .int x :: st) h Q := go_pure hF rfl (show (if y = 0 then none else some (Value.int (x / y))).map (fun v => v :: st) = _ by rw [if_neg h0]; rfl) g
theorem g_irem {x y : Int32} (hF : sFk k pc = some (.irem)) (h0 : ¬ y = 0) (g : sGo X k d (pc + 1) L (.int (x - x / y * y) :: st) h Q) : sGo X k d pc L (.int y :: .int x :: st) h Q := go_pure hF rfl (show (if y = 0 then none else some (Value.int (x - x / y * y))).map (fun v => v :: st) = _ by rw [if_neg h0]; rfl) g
theorem g_ladd {x y : Int64} (hF : sFk k pc = some (.ladd)) (g : sGo X k d (pc + 1) L (.long (x + y) :: st) h Q) : sGo X k d pc L (.long y :: .long x :: st) h Q := go_pure hF rfl rfl g
theorem g_lsub {x y : Int64} (hF : sFk k pc = some (.lsub)) (g : sGo X k d (pc + 1) L (.long (x - y) :: st) h Q) : sGo X k d pc L (.long y :: .long x :: st) h Q := go_pure hF rfl rfl g
theorem g_land {x y : Int64} (hF : sFk k pc = some (.land)) (g : sGo X k d (pc + 1) L (.long (x &&& y) :: st) h Q) : sGo X k d pc L (.long y :: .long x :: st) h Q := go_pure hF rfl rfl g
theorem g_lor {x y : Int64} (hF : sFk k pc = some (.lor)) (g : sGo X k d (pc + 1) L (.long (x ||| y) :: st) h Q) : sGo X k d pc L (.long y :: .long x :: st) h Q := go_pure hF rfl rfl g
theorem g_lxor {x y : Int64} (hF : sFk k pc = some (.lxor)) (g : sGo X k d (pc + 1) L (.long (x ^^^ y) :: st) h Q) : sGo X k d pc L (.long y :: .long x :: st) h Q := go_pure hF rfl rfl g
theorem g_lcmp {x y : Int64} (hF : sFk k pc = some (.lcmp)) (g : sGo X k d (pc + 1) L (.int (lg_cmp x y) :: st) h Q) : sGo X k d pc L (.long y :: .long x :: st) h Q := go_pure hF rfl rfl g
theorem g_lshl {x : Int64} {y : Int32} (hF : sFk k pc = some (.lshl)) (g : sGo X k d (pc + 1) L (.long (x <<< (y.toInt64 &&& 63)) :: st) h Q) : sGo X k d pc L (.int y :: .long x :: st) h Q := go_pure hF rfl rfl g
theorem g_lshr {x : Int64} {y : Int32} (hF : sFk k pc = some (.lshr)) (g : sGo X k d (pc + 1) L (.long (x >>> (y.toInt64 &&& 63)) :: st) h Q) : sGo X k d pc L (.int y :: .long x :: st) h Q := go_pure hF rfl rfl g
theorem g_lushr {x : Int64} {y : Int32} (hF : sFk k pc = some (.lushr)) (g : sGo X k d (pc + 1) L (.long ((x.toUInt64 >>> (y.toInt64.toUInt64 &&& Int64.toUInt64 63)).toInt64) :: st) h Q) : sGo X k d pc L (.int y :: .long x :: st) h Q := go_pure hF rfl rfl g
theorem g_ineg {x : Int32} (hF : sFk k pc = some (.ineg)) (g : sGo X k d (pc + 1) L (.int (-x) :: st) h Q) : sGo X k d pc L (.int x :: st) h Q := go_pure hF rfl rfl g
theorem g_lneg {x : Int64} (hF : sFk k pc = some (.lneg)) (g : sGo X k d (pc + 1) L (.long (-x) :: st) h Q) : sGo X k d pc L (.long x :: st) h Q := go_pure hF rfl rfl g
theorem g_i2l {x : Int32} (hF : sFk k pc = some (.i2l)) (g : sGo X k d (pc + 1) L (.long x.toInt64 :: st) h Q) : sGo X k d pc L (.int x :: st) h Q := go_pure hF rfl rfl g
theorem g_l2i {x : Int64} (hF : sFk k pc = some (.l2i)) (g : sGo X k d (pc + 1) L (.int x.toInt32 :: st) h Q) : sGo X k d pc L (.long x :: st) h Q := go_pure hF rfl rfl g
theorem g_i2b {x : Int32} (hF : sFk k pc = some (.i2b)) (g : sGo X k d (pc + 1) L (.int x.toInt8.toInt32 :: st) h Q) : sGo X k d pc L (.int x :: st) h Q := go_pure hF rfl rfl g
theorem g_i2s {x : Int32} (hF : sFk k pc = some (.i2s)) (g : sGo X k d (pc + 1) L (.int x.toInt16.toInt32 :: st) h Q) : sGo X k d pc L (.int x :: st) h Q := go_pure hF rfl rfl g
theorem g_i2c {x : Int32} (hF : sFk k pc = some (.i2c)) (g : sGo X k d (pc + 1) L (.int (x.toUInt32 % 65536).toInt32 :: st) h Q) : sGo X k d pc L (.int x :: st) h Q := go_pure hF rfl rfl g
theorem g_dup {a : Value} (hF : sFk k pc = some (.dup)) (ha : a.category = 1) (g : sGo X k d (pc + 1) L (a :: a :: st) h Q) : sGo X k d pc L (a :: st) h Q := go_pure hF rfl (if_pos ha) g
theorem g_pop {a : Value} (hF : sFk k pc = some (.pop)) (ha : a.category = 1) (g : sGo X k d (pc + 1) L (st) h Q) : sGo X k d pc L (a :: st) h Q := go_pure hF rfl (if_pos ha) g
theorem g_dup_x1 {a b : Value} (hF : sFk k pc = some (.dup_x1)) (ha : a.category = 1) (hb : b.category = 1) (g : sGo X k d (pc + 1) L (a :: b :: a :: st) h Q) : sGo X k d pc L (a :: b :: st) h Q := go_pure hF rfl (if_pos ⟨ha, hb⟩) g
theorem g_dup2 {a b : Value} (hF : sFk k pc = some (.dup2)) (ha : a.category = 1) (hb : b.category = 1) (g : sGo X k d (pc + 1) L (a :: b :: a :: b :: st) h Q) : sGo X k d pc L (a :: b :: st) h Q := go_pure hF rfl (if_pos ⟨ha, hb⟩) g
theorem g_iload {i : Nat} {x : Int32} (hF : sFk k pc = some (.iload i)) (hl : L[i]? = some (some (.int x))) (g : sGo X k d (pc + 2) (L) (.int x :: st) h Q) : sGo X k d pc L (st) h Q := go_loc hF rfl (show sLdI L i st = _ by unfold sLdI; rw [hl]) g
theorem g_iload_n {i : Fin 4} {x : Int32} (hF : sFk k pc = some (.iload_n i)) (hl : L[(i : Nat)]? = some (some (.int x))) (g : sGo X k d (pc + 1) (L) (.int x :: st) h Q) : sGo X k d pc L (st) h Q := go_loc hF rfl (show sLdI L (i : Nat) st = _ by unfold sLdI; rw [hl]) g
theorem g_lload {i : Nat} {x : Int64} (hF : sFk k pc = some (.lload i)) (hl : L[i]? = some (some (.long x))) (g : sGo X k d (pc + 2) (L) (.long x :: st) h Q) : sGo X k d pc L (st) h Q := go_loc hF rfl (show sLdL L i st = _ by unfold sLdL; rw [hl]) g
theorem g_lload_n {i : Fin 4} {x : Int64} (hF : sFk k pc = some (.lload_n i)) (hl : L[(i : Nat)]? = some (some (.long x))) (g : sGo X k d (pc + 1) (L) (.long x :: st) h Q) : sGo X k d pc L (st) h Q := go_loc hF rfl (show sLdL L (i : Nat) st = _ by unfold sLdL; rw [hl]) g
theorem g_aload {i : Nat} {x : Nat} (hF : sFk k pc = some (.aload i)) (hl : L[i]? = some (some (.ref x))) (g : sGo X k d (pc + 2) (L) (.ref x :: st) h Q) : sGo X k d pc L (st) h Q := go_loc hF rfl (show sLdA L i st = _ by unfold sLdA; rw [hl]) g
theorem g_aloadN {i : Nat} (hF : sFk k pc = some (.aload i)) (hl : L[i]? = some (some .null)) (g : sGo X k d (pc + 2) (L) (.null :: st) h Q) : sGo X k d pc L (st) h Q := go_loc hF rfl (show sLdA L i st = _ by unfold sLdA; rw [hl]) g
theorem g_aload_n {i : Fin 4} {x : Nat} (hF : sFk k pc = some (.aload_n i)) (hl : L[(i : Nat)]? = some (some (.ref x))) (g : sGo X k d (pc + 1) (L) (.ref x :: st) h Q) : sGo X k d pc L (st) h Q := go_loc hF rfl (show sLdA L (i : Nat) st = _ by unfold sLdA; rw [hl]) g
theorem g_aload_nN {i : Fin 4} (hF : sFk k pc = some (.aload_n i)) (hl : L[(i : Nat)]? = some (some .null)) (g : sGo X k d (pc + 1) (L) (.null :: st) h Q) : sGo X k d pc L (st) h Q := go_loc hF rfl (show sLdA L (i : Nat) st = _ by unfold sLdA; rw [hl]) g
theorem g_istore {i : Nat} {x : Int32} {L1 : sLo} (hF : sFk k pc = some (.istore i)) (hi : i < L.length) (hL : sPut L i (.int x) = L1) (g : sGo X k d (pc + 2) (L1) (st) h Q) : sGo X k d pc L (.int x :: st) h Q := go_loc hF rfl (show sStI L i (.int x :: st) = _ by unfold sStI; dsimp only; rw [if_pos hi, hL]) g
theorem g_istore_n {i : Fin 4} {x : Int32} {L1 : sLo} (hF : sFk k pc = some (.istore_n i)) (hi : (i : Nat) < L.length) (hL : sPut L (i : Nat) (.int x) = L1) (g : sGo X k d (pc + 1) (L1) (st) h Q) : sGo X k d pc L (.int x :: st) h Q := go_loc hF rfl (show sStI L (i : Nat) (.int x :: st) = _ by unfold sStI; dsimp only; rw [if_pos hi, hL]) g
theorem g_lstore {i : Nat} {x : Int64} {L1 : sLo} (hF : sFk k pc = some (.lstore i)) (hi : i + 1 < L.length) (hL : sPutL L i (.long x) = L1) (g : sGo X k d (pc + 2) (L1) (st) h Q) : sGo X k d pc L (.long x :: st) h Q := go_loc hF rfl (show sStL L i (.long x :: st) = _ by unfold sStL; dsimp only; rw [if_pos hi, hL]) g
theorem g_lstore_n {i : Fin 4} {x : Int64} {L1 : sLo} (hF : sFk k pc = some (.lstore_n i)) (hi : (i : Nat) + 1 < L.length) (hL : sPutL L (i : Nat) (.long x) = L1) (g : sGo X k d (pc + 1) (L1) (st) h Q) : sGo X k d pc L (.long x :: st) h Q := go_loc hF rfl (show sStL L (i : Nat) (.long x :: st) = _ by unfold sStL; dsimp only; rw [if_pos hi, hL]) g
theorem g_astore {i : Nat} {x : Nat} {L1 : sLo} (hF : sFk k pc = some (.astore i)) (hi : i < L.length) (hL : sPut L i (.ref x) = L1) (g : sGo X k d (pc + 2) (L1) (st) h Q) : sGo X k d pc L (.ref x :: st) h Q := go_loc hF rfl (show sStA L i (.ref x :: st) = _ by unfold sStA; dsimp only; rw [if_pos hi, hL]) g
theorem g_astoreN {i : Nat} {L1 : sLo} (hF : sFk k pc = some (.astore i)) (hi : i < L.length) (hL : sPut L i .null = L1) (g : sGo X k d (pc + 2) (L1) (st) h Q) : sGo X k d pc L (.null :: st) h Q := go_loc hF rfl (show sStA L i (.null :: st) = _ by unfold sStA; dsimp only; rw [if_pos hi, hL]) g
theorem g_astore_n {i : Fin 4} {x : Nat} {L1 : sLo} (hF : sFk k pc = some (.astore_n i)) (hi : (i : Nat) < L.length) (hL : sPut L (i : Nat) (.ref x) = L1) (g : sGo X k d (pc + 1) (L1) (st) h Q) : sGo X k d pc L (.ref x :: st) h Q := go_loc hF rfl (show sStA L (i : Nat) (.ref x :: st) = _ by unfold sStA; dsimp only; rw [if_pos hi, hL]) g
theorem g_astore_nN {i : Fin 4} {L1 : sLo} (hF : sFk k pc = some (.astore_n i)) (hi : (i : Nat) < L.length) (hL : sPut L (i : Nat) .null = L1) (g : sGo X k d (pc + 1) (L1) (st) h Q) : sGo X k d pc L (.null :: st) h Q := go_loc hF rfl (show sStA L (i : Nat) (.null :: st) = _ by unfold sStA; dsimp only; rw [if_pos hi, hL]) g
theorem g_iinc {i : Nat} {n : Int} {x : Int32} {L1 : sLo} (hF : sFk k pc = some (.iinc i n)) (hl : L[i]? = some (some (.int x))) (hL : sPut L i (.int (x + Int32.ofInt n)) = L1) (g : sGo X k d (pc + 3) (L1) (st) h Q) : sGo X k d pc L (st) h Q := go_loc hF rfl (show sInc L i n st = _ by unfold sInc; rw [hl]; dsimp only; rw [hL]) g
theorem g_icmp_eq {x y : Int32} {off : Int} (t : Nat) (hF : sFk k pc = some (.if_icmp .eq off)) (ht : sTgt pc off = some t) (kt : x = y → sGo X k d t L st h Q) (kf : ¬ x = y → sGo X k d (pc + 3) L st h Q) : sGo X k d pc L (.int y :: .int x :: st) h Q := by
  by_cases hc : x = y
  · exact go_jmp hF rfl (by show sIf pc off (sC2 .eq x y) st = _; unfold sIf; rw [ht, show sC2 .eq x y = true from decide_eq_true hc]; rfl) (kt hc)
  · exact go_jmp hF rfl (by show sIf pc off (sC2 .eq x y) st = _; unfold sIf; rw [ht, show sC2 .eq x y = false from decide_eq_false hc]; rfl) (kf hc)
theorem g_if_eq {x : Int32} {off : Int} (t : Nat) (hF : sFk k pc = some (.ifCond .eq off)) (ht : sTgt pc off = some t) (kt : x = 0 → sGo X k d t L st h Q) (kf : ¬ x = 0 → sGo X k d (pc + 3) L st h Q) : sGo X k d pc L (.int x :: st) h Q := by
  by_cases hc : x = 0
  · exact go_jmp hF rfl (by show sIf pc off (sC2 .eq x 0) st = _; unfold sIf; rw [ht, show sC2 .eq x 0 = true from decide_eq_true hc]; rfl) (kt hc)
  · exact go_jmp hF rfl (by show sIf pc off (sC2 .eq x 0) st = _; unfold sIf; rw [ht, show sC2 .eq x 0 = false from decide_eq_false hc]; rfl) (kf hc)
theorem g_icmp_ne {x y : Int32} {off : Int} (t : Nat) (hF : sFk k pc = some (.if_icmp .ne off)) (ht : sTgt pc off = some t) (kt : ¬ x = y → sGo X k d t L st h Q) (kf : x = y → sGo X k d (pc + 3) L st h Q) : sGo X k d pc L (.int y :: .int x :: st) h Q := by
  by_cases hc : x = y
  · exact go_jmp hF rfl (by show sIf pc off (sC2 .ne x y) st = _; unfold sIf; rw [ht, show sC2 .ne x y = false from by show (!decide (x = y)) = false; rw [decide_eq_true hc]; rfl]; rfl) (kf hc)
  · exact go_jmp hF rfl (by show sIf pc off (sC2 .ne x y) st = _; unfold sIf; rw [ht, show sC2 .ne x y = true from by show (!decide (x = y)) = true; rw [decide_eq_false hc]; rfl]; rfl) (kt hc)
theorem g_if_ne {x : Int32} {off : Int} (t : Nat) (hF : sFk k pc = some (.ifCond .ne off)) (ht : sTgt pc off = some t) (kt : ¬ x = 0 → sGo X k d t L st h Q) (kf : x = 0 → sGo X k d (pc + 3) L st h Q) : sGo X k d pc L (.int x :: st) h Q := by
  by_cases hc : x = 0
  · exact go_jmp hF rfl (by show sIf pc off (sC2 .ne x 0) st = _; unfold sIf; rw [ht, show sC2 .ne x 0 = false from by show (!decide (x = 0)) = false; rw [decide_eq_true hc]; rfl]; rfl) (kf hc)
  · exact go_jmp hF rfl (by show sIf pc off (sC2 .ne x 0) st = _; unfold sIf; rw [ht, show sC2 .ne x 0 = true from by show (!decide (x = 0)) = true; rw [decide_eq_false hc]; rfl]; rfl) (kt hc)
theorem g_icmp_lt {x y : Int32} {off : Int} (t : Nat) (hF : sFk k pc = some (.if_icmp .lt off)) (ht : sTgt pc off = some t) (kt : x < y → sGo X k d t L st h Q) (kf : ¬ x < y → sGo X k d (pc + 3) L st h Q) : sGo X k d pc L (.int y :: .int x :: st) h Q := by
  by_cases hc : x < y
  · exact go_jmp hF rfl (by show sIf pc off (sC2 .lt x y) st = _; unfold sIf; rw [ht, show sC2 .lt x y = true from decide_eq_true hc]; rfl) (kt hc)
  · exact go_jmp hF rfl (by show sIf pc off (sC2 .lt x y) st = _; unfold sIf; rw [ht, show sC2 .lt x y = false from decide_eq_false hc]; rfl) (kf hc)
theorem g_if_lt {x : Int32} {off : Int} (t : Nat) (hF : sFk k pc = some (.ifCond .lt off)) (ht : sTgt pc off = some t) (kt : x < 0 → sGo X k d t L st h Q) (kf : ¬ x < 0 → sGo X k d (pc + 3) L st h Q) : sGo X k d pc L (.int x :: st) h Q := by
  by_cases hc : x < 0
  · exact go_jmp hF rfl (by show sIf pc off (sC2 .lt x 0) st = _; unfold sIf; rw [ht, show sC2 .lt x 0 = true from decide_eq_true hc]; rfl) (kt hc)
  · exact go_jmp hF rfl (by show sIf pc off (sC2 .lt x 0) st = _; unfold sIf; rw [ht, show sC2 .lt x 0 = false from decide_eq_false hc]; rfl) (kf hc)
theorem g_icmp_ge {x y : Int32} {off : Int} (t : Nat) (hF : sFk k pc = some (.if_icmp .ge off)) (ht : sTgt pc off = some t) (kt : y ≤ x → sGo X k d t L st h Q) (kf : ¬ y ≤ x → sGo X k d (pc + 3) L st h Q) : sGo X k d pc L (.int y :: .int x :: st) h Q := by
  by_cases hc : y ≤ x
  · exact go_jmp hF rfl (by show sIf pc off (sC2 .ge x y) st = _; unfold sIf; rw [ht, show sC2 .ge x y = true from decide_eq_true hc]; rfl) (kt hc)
  · exact go_jmp hF rfl (by show sIf pc off (sC2 .ge x y) st = _; unfold sIf; rw [ht, show sC2 .ge x y = false from decide_eq_false hc]; rfl) (kf hc)
theorem g_if_ge {x : Int32} {off : Int} (t : Nat) (hF : sFk k pc = some (.ifCond .ge off)) (ht : sTgt pc off = some t) (kt : 0 ≤ x → sGo X k d t L st h Q) (kf : ¬ 0 ≤ x → sGo X k d (pc + 3) L st h Q) : sGo X k d pc L (.int x :: st) h Q := by
  by_cases hc : 0 ≤ x
  · exact go_jmp hF rfl (by show sIf pc off (sC2 .ge x 0) st = _; unfold sIf; rw [ht, show sC2 .ge x 0 = true from decide_eq_true hc]; rfl) (kt hc)
  · exact go_jmp hF rfl (by show sIf pc off (sC2 .ge x 0) st = _; unfold sIf; rw [ht, show sC2 .ge x 0 = false from decide_eq_false hc]; rfl) (kf hc)
theorem g_icmp_gt {x y : Int32} {off : Int} (t : Nat) (hF : sFk k pc = some (.if_icmp .gt off)) (ht : sTgt pc off = some t) (kt : y < x → sGo X k d t L st h Q) (kf : ¬ y < x → sGo X k d (pc + 3) L st h Q) : sGo X k d pc L (.int y :: .int x :: st) h Q := by
  by_cases hc : y < x
  · exact go_jmp hF rfl (by show sIf pc off (sC2 .gt x y) st = _; unfold sIf; rw [ht, show sC2 .gt x y = true from decide_eq_true hc]; rfl) (kt hc)
  · exact go_jmp hF rfl (by show sIf pc off (sC2 .gt x y) st = _; unfold sIf; rw [ht, show sC2 .gt x y = false from decide_eq_false hc]; rfl) (kf hc)
theorem g_if_gt {x : Int32} {off : Int} (t : Nat) (hF : sFk k pc = some (.ifCond .gt off)) (ht : sTgt pc off = some t) (kt : 0 < x → sGo X k d t L st h Q) (kf : ¬ 0 < x → sGo X k d (pc + 3) L st h Q) : sGo X k d pc L (.int x :: st) h Q := by
  by_cases hc : 0 < x
  · exact go_jmp hF rfl (by show sIf pc off (sC2 .gt x 0) st = _; unfold sIf; rw [ht, show sC2 .gt x 0 = true from decide_eq_true hc]; rfl) (kt hc)
  · exact go_jmp hF rfl (by show sIf pc off (sC2 .gt x 0) st = _; unfold sIf; rw [ht, show sC2 .gt x 0 = false from decide_eq_false hc]; rfl) (kf hc)
theorem g_icmp_le {x y : Int32} {off : Int} (t : Nat) (hF : sFk k pc = some (.if_icmp .le off)) (ht : sTgt pc off = some t) (kt : x ≤ y → sGo X k d t L st h Q) (kf : ¬ x ≤ y → sGo X k d (pc + 3) L st h Q) : sGo X k d pc L (.int y :: .int x :: st) h Q := by
  by_cases hc : x ≤ y
  · exact go_jmp hF rfl (by show sIf pc off (sC2 .le x y) st = _; unfold sIf; rw [ht, show sC2 .le x y = true from decide_eq_true hc]; rfl) (kt hc)
  · exact go_jmp hF rfl (by show sIf pc off (sC2 .le x y) st = _; unfold sIf; rw [ht, show sC2 .le x y = false from decide_eq_false hc]; rfl) (kf hc)
theorem g_if_le {x : Int32} {off : Int} (t : Nat) (hF : sFk k pc = some (.ifCond .le off)) (ht : sTgt pc off = some t) (kt : x ≤ 0 → sGo X k d t L st h Q) (kf : ¬ x ≤ 0 → sGo X k d (pc + 3) L st h Q) : sGo X k d pc L (.int x :: st) h Q := by
  by_cases hc : x ≤ 0
  · exact go_jmp hF rfl (by show sIf pc off (sC2 .le x 0) st = _; unfold sIf; rw [ht, show sC2 .le x 0 = true from decide_eq_true hc]; rfl) (kt hc)
  · exact go_jmp hF rfl (by show sIf pc off (sC2 .le x 0) st = _; unfold sIf; rw [ht, show sC2 .le x 0 = false from decide_eq_false hc]; rfl) (kf hc)
theorem g_goto {off : Int} (t : Nat) (hF : sFk k pc = some (.goto off)) (ht : sTgt pc off = some t) (g : sGo X k d t L st h Q) : sGo X k d pc L st h Q := go_jmp hF rfl (by show (sTgt pc off).map _ = _; rw [ht]; rfl) g
theorem g_ifnull {off : Int} {a : Nat} (t : Nat) (hF : sFk k pc = some (.ifnull off)) (ht : sTgt pc off = some t) (g : sGo X k d (pc + 3) L st h Q) : sGo X k d pc L (.ref a :: st) h Q := go_jmp hF rfl (by show sIf pc off false st = _; unfold sIf; rw [ht]; rfl) g
theorem g_ifnullN {off : Int} (t : Nat) (hF : sFk k pc = some (.ifnull off)) (ht : sTgt pc off = some t) (g : sGo X k d t L st h Q) : sGo X k d pc L (.null :: st) h Q := go_jmp hF rfl (by show sIf pc off true st = _; unfold sIf; rw [ht]; rfl) g
theorem g_getfield {j a ci : Nat} {fs : List Value} {v : Value} (hF : sFk k pc = some (.getfield j)) (ha : h[a]? = some (.inr (ci, fs))) (hg : sGrp ci = j / 64) (hv : fs[j % 64]? = some v) (g : sGo X k d (pc + 3) L (v :: st) h Q) : sGo X k d pc L (.ref a :: st) h Q := go_heap hF rfl (by cases X <;> rfl) (by show sGetF j (.ref a :: st) h = _; unfold sGetF; dsimp only; rw [ha]; dsimp only; rw [if_pos hg, hv]) g
theorem g_putfield {j a ci : Nat} {fs : List Value} {v : Value} {h1 : sHp} (hF : sFk k pc = some (.putfield j)) (ha : h[a]? = some (.inr (ci, fs))) (hg : sGrp ci = j / 64) (hl : j % 64 < fs.length) (hv : sFit (sTy ci (j % 64)) v = true) (he : h.set a (.inr (ci, fs.set (j % 64) v)) = h1) (g : sGo X k d (pc + 3) L st h1 Q) : sGo X k d pc L (v :: .ref a :: st) h Q := go_heap hF rfl (by cases X <;> rfl) (by show sPutF j (v :: .ref a :: st) h = _; unfold sPutF; dsimp only; rw [ha]; dsimp only; rw [if_pos ⟨hg, hl, hv⟩, he]) g
theorem g_new {j : Nat} (hF : sFk k pc = some (.new j)) (hj : j < 13) (g : sGo X k d (pc + 3) L (.ref h.length :: st) (h ++ [.inr (j, sDef j)]) Q) : sGo X k d pc L st h Q := go_heap hF rfl (by cases X <;> rfl) (by show sNew j st h = _; unfold sNew; rw [if_pos hj]) g
theorem g_newarray_int {n : Int32} (hF : sFk k pc = some (.newarray .int)) (hn : ¬ (n < 0 ∨ 100000 < n.toNatClampNeg)) (g : sGo X k d (pc + 2) L (.ref h.length :: st) (h ++ [.inl (0, n.toNatClampNeg, .inl (fun _ => 0))]) Q) : sGo X k d pc L (.int n :: st) h Q := go_heap hF rfl (by cases X <;> rfl) (by show sNewA .int (.int n :: st) h = _; unfold sNewA; dsimp only; rw [if_neg hn]) g
theorem g_newarray_long {n : Int32} (hF : sFk k pc = some (.newarray .long)) (hn : ¬ (n < 0 ∨ 100000 < n.toNatClampNeg)) (g : sGo X k d (pc + 2) L (.ref h.length :: st) (h ++ [.inl (1, n.toNatClampNeg, .inr (.inl (fun _ => 0)))]) Q) : sGo X k d pc L (.int n :: st) h Q := go_heap hF rfl (by cases X <;> rfl) (by show sNewA .long (.int n :: st) h = _; unfold sNewA; dsimp only; rw [if_neg hn]) g
theorem g_newarray_bool {n : Int32} (hF : sFk k pc = some (.newarray .boolean)) (hn : ¬ (n < 0 ∨ 100000 < n.toNatClampNeg)) (g : sGo X k d (pc + 2) L (.ref h.length :: st) (h ++ [.inl (2, n.toNatClampNeg, .inl (fun _ => 0))]) Q) : sGo X k d pc L (.int n :: st) h Q := go_heap hF rfl (by cases X <;> rfl) (by show sNewA .boolean (.int n :: st) h = _; unfold sNewA; dsimp only; rw [if_neg hn]) g
theorem g_anewarray {j : Nat} {n : Int32} (hF : sFk k pc = some (.anewarray j)) (hn : ¬ (n < 0 ∨ 100000 < n.toNatClampNeg ∨ ¬ (j = 3 ∨ j = 4))) (g : sGo X k d (pc + 3) L (.ref h.length :: st) (h ++ [.inl (j, n.toNatClampNeg, .inr (.inr (.inr (.inr (fun _ => none)))))]) Q) : sGo X k d pc L (.int n :: st) h Q := go_heap hF rfl (by cases X <;> rfl) (by show sNewQ j (.int n :: st) h = _; unfold sNewQ; dsimp only; rw [if_neg hn]) g
theorem g_multianewarray {j j2 : Nat} (hF : sFk k pc = some (.multianewarray j j2)) (g : sGo X k d (pc + 4) L (.ref h.length :: st) (h ++ (.inl (5, 5, .inr (.inr (.inr (.inr (fun j => if j < 5 then some (h.length + 1 + j) else none))))) :: List.replicate 5 (.inl (0, 6, .inl (fun _ => 0))))) Q) : sGo X k d pc L (.int 6 :: .int 5 :: st) h Q := go_heap hF rfl (by cases X <;> rfl) (by show sNewM (.int 6 :: .int 5 :: st) h = _; unfold sNewM; dsimp only; rw [if_pos ⟨rfl, rfl⟩]) g
theorem g_ldc2_w {j : Nat} (hF : sFk k pc = some (.ldc2_w j)) (g : sGo X k d (pc + 3) L (.long (Int64.ofNat j) :: st) h Q) : sGo X k d pc L st h Q := go_heap hF rfl (by cases X <;> rfl) rfl g
theorem g_ldc {j : Nat} (hj : j < 4294967296) (hF : sFk k pc = some (.ldc j)) (g : sGo X k d (pc + 2) L (.int (Int32.ofNat j) :: st) h Q) : sGo X k d pc L st h Q := go_heap hF rfl (by cases X <;> rfl) (if_pos hj) g
theorem g_ldc_w {j : Nat} (hF : sFk k pc = some (.ldc_w j)) (g : sGo X k d (pc + 3) L (.int (Int32.ofNat j) :: st) h Q) : sGo X k d pc L st h Q := go_heap hF rfl (by cases X <;> rfl) rfl g
theorem g_iaload {a n : Nat} {i : Int32} {f : Nat → Int32} (hF : sFk k pc = some (.iaload)) (ha : h[a]? = some (.inl (0, n, .inl f))) (hi : ¬ (i < 0 ∨ n ≤ i.toNatClampNeg)) (g : sGo none k d (pc + 1) L (.int (f i.toNatClampNeg) :: st) h Q) : sGo none k d pc L (.int i :: .ref a :: st) h Q := go_heap hF rfl rfl (by show sLdAI 0 (.int i :: .ref a :: st) h = _; unfold sLdAI; dsimp only; rw [ha]; dsimp only; rw [if_pos ⟨rfl, hi⟩]) g
theorem g_baload {a n : Nat} {i : Int32} {f : Nat → Int32} (hF : sFk k pc = some (.baload)) (ha : h[a]? = some (.inl (2, n, .inl f))) (hi : ¬ (i < 0 ∨ n ≤ i.toNatClampNeg)) (g : sGo none k d (pc + 1) L (.int (f i.toNatClampNeg) :: st) h Q) : sGo none k d pc L (.int i :: .ref a :: st) h Q := go_heap hF rfl rfl (by show sLdAI 2 (.int i :: .ref a :: st) h = _; unfold sLdAI; dsimp only; rw [ha]; dsimp only; rw [if_pos ⟨rfl, hi⟩]) g
theorem g_laload {a n : Nat} {i : Int32} {f : Nat → Int64} (hF : sFk k pc = some (.laload)) (ha : h[a]? = some (.inl (1, n, .inr (.inl f)))) (hi : ¬ (i < 0 ∨ n ≤ i.toNatClampNeg)) (g : sGo none k d (pc + 1) L (.long (f i.toNatClampNeg) :: st) h Q) : sGo none k d pc L (.int i :: .ref a :: st) h Q := go_heap hF rfl rfl (by show sLdAL (.int i :: .ref a :: st) h = _; unfold sLdAL; dsimp only; rw [ha]; dsimp only; rw [if_pos ⟨rfl, hi⟩]) g
theorem g_aaload {a n t : Nat} {i : Int32} {f : Nat → Option Nat} (hF : sFk k pc = some .aaload) (ha : h[a]? = some (.inl (t, n, .inr (.inr (.inr (.inr f)))))) (ht : t = 3 ∨ t = 4 ∨ t = 5) (hi : ¬ (i < 0 ∨ n ≤ i.toNatClampNeg)) (g : sGo none k d (pc + 1) L (va_rf (f i.toNatClampNeg) :: st) h Q) : sGo none k d pc L (.int i :: .ref a :: st) h Q := go_heap hF rfl rfl (by show sLdAA (.int i :: .ref a :: st) h = _; unfold sLdAA; dsimp only; rw [ha]; dsimp only; rw [if_pos ⟨ht, hi⟩]) g
theorem g_iastore {a n : Nat} {i x : Int32} {f : Nat → Int32} {h1 : sHp} (hF : sFk k pc = some .iastore) (ha : h[a]? = some (.inl (0, n, .inl f))) (hi : ¬ (i < 0 ∨ n ≤ i.toNatClampNeg)) (he : h.set a (.inl (0, n, .inl (upd f i.toNatClampNeg x))) = h1) (g : sGo X k d (pc + 1) L st h1 Q) : sGo X k d pc L (.int x :: .int i :: .ref a :: st) h Q := go_heap hF rfl (by cases X <;> rfl) (by show sStAI (.int x :: .int i :: .ref a :: st) h = _; unfold sStAI; dsimp only; rw [ha]; dsimp only; rw [if_pos ⟨rfl, hi⟩, he]) g
theorem g_bastore {a n : Nat} {i x : Int32} {f : Nat → Int32} {h1 : sHp} (hF : sFk k pc = some .bastore) (ha : h[a]? = some (.inl (2, n, .inl f))) (hx : x = 0 ∨ x = 1) (hi : ¬ (i < 0 ∨ n ≤ i.toNatClampNeg)) (he : h.set a (.inl (2, n, .inl (upd f i.toNatClampNeg x))) = h1) (g : sGo X k d (pc + 1) L st h1 Q) : sGo X k d pc L (.int x :: .int i :: .ref a :: st) h Q := go_heap hF rfl (by cases X <;> rfl) (by show sStAZ (.int x :: .int i :: .ref a :: st) h = _; unfold sStAZ; dsimp only; rw [ha]; dsimp only; rw [if_pos ⟨rfl, hx, hi⟩, he]) g
theorem g_lastore {a n : Nat} {i : Int32} {x : Int64} {f : Nat → Int64} {h1 : sHp} (hF : sFk k pc = some .lastore) (ha : h[a]? = some (.inl (1, n, .inr (.inl f)))) (hi : ¬ (i < 0 ∨ n ≤ i.toNatClampNeg)) (he : h.set a (.inl (1, n, .inr (.inl (vp_updL f i.toNatClampNeg x)))) = h1) (g : sGo X k d (pc + 1) L st h1 Q) : sGo X k d pc L (.long x :: .int i :: .ref a :: st) h Q := go_heap hF rfl (by cases X <;> rfl) (by show sStAL (.long x :: .int i :: .ref a :: st) h = _; unfold sStAL; dsimp only; rw [ha]; dsimp only; rw [if_pos ⟨rfl, hi⟩, he]) g
theorem g_aastore {a n t q : Nat} {i : Int32} {f : Nat → Option Nat} {h1 : sHp} (hF : sFk k pc = some .aastore) (ha : h[a]? = some (.inl (t, n, .inr (.inr (.inr (.inr f)))))) (hq : sIsObj t h[q]? = true) (hi : ¬ (i < 0 ∨ n ≤ i.toNatClampNeg)) (he : h.set a (.inl (t, n, .inr (.inr (.inr (.inr (va_up f i.toNatClampNeg (some q))))))) = h1) (g : sGo X k d (pc + 1) L st h1 Q) : sGo X k d pc L (.ref q :: .int i :: .ref a :: st) h Q := go_heap hF rfl (by cases X <;> rfl) (by show sStAA (.ref q :: .int i :: .ref a :: st) h = _; unfold sStAA; dsimp only; rw [ha]; dsimp only; rw [if_pos ⟨hq, hi⟩, he]) g
theorem g_aastoreN {a n t : Nat} {i : Int32} {f : Nat → Option Nat} {h1 : sHp} (hF : sFk k pc = some .aastore) (ha : h[a]? = some (.inl (t, n, .inr (.inr (.inr (.inr f)))))) (ht : t = 3 ∨ t = 4) (hi : ¬ (i < 0 ∨ n ≤ i.toNatClampNeg)) (he : h.set a (.inl (t, n, .inr (.inr (.inr (.inr (va_up f i.toNatClampNeg none)))))) = h1) (g : sGo X k d (pc + 1) L st h1 Q) : sGo X k d pc L (.null :: .int i :: .ref a :: st) h Q := go_heap hF rfl (by cases X <;> rfl) (by show sStAA (.null :: .int i :: .ref a :: st) h = _; unfold sStAA; dsimp only; rw [ha]; dsimp only; rw [if_pos ⟨ht, hi⟩, he]) g
theorem g_alen {a n t : Nat} {dd : (Nat → Int32) ⊕ (Nat → Int64) ⊕ (Nat → UInt32) ⊕ (Nat → UInt64) ⊕ (Nat → Option Nat)} (hF : sFk k pc = some .arraylength) (ha : h[a]? = some (.inl (t, n, dd))) (ht : t < 6) (g : sGo none k d (pc + 1) L (.int (Int32.ofNat n) :: st) h Q) : sGo none k d pc L (.ref a :: st) h Q := go_heap hF rfl rfl (by show sALen (.ref a :: st) h = _; unfold sALen; dsimp only; rw [ha]; dsimp only; rw [if_pos ht]) g
theorem g_ireturn {x : Int32} {ty : FieldType} (hF : sFk k pc = some .ireturn) (hR : sRk k = some (some ty)) (hn : narrow ty (.int x) = .int x) (hQ : Q (some (.int x)) h) : sGo X k d pc L [.int x] h Q := go_ret hF rfl hR (by show (if _ then _ else _) = _; rw [if_pos hn]) hQ
theorem g_lreturn {x : Int64} (hF : sFk k pc = some .lreturn) (hR : sRk k = some (some .long)) (hQ : Q (some (.long x)) h) : sGo X k d pc L [.long x] h Q := go_ret hF rfl hR rfl hQ
theorem g_areturn {a : Nat} {C : String} (hF : sFk k pc = some .areturn) (hR : sRk k = some (some (.object C))) (hQ : Q (some (.ref a)) h) : sGo X k d pc L [.ref a] h Q := go_ret hF rfl hR rfl hQ
theorem g_return (hF : sFk k pc = some .return_) (hR : sRk k = some none) (hQ : Q none h) : sGo X k d pc L [] h Q := go_ret hF rfl hR rfl hQ
theorem g_objinit {a : Nat} (hF : sFk k pc = some (.invokespecial 2000)) (hcat : ((Value.ref a :: st).map (fun v => v.category)).sum ≤ 10) (g : sGo X k d (pc + 3) L st h Q) : sGo X k d pc L (.ref a :: st) h Q := go_spec hF rfl hcat rfl g
theorem g_max {x y : Int32} (hF : sFk k pc = some (.invokestatic 1000)) (hcat : ((Value.int y :: Value.int x :: st).map (fun v => v.category)).sum ≤ 10) (g : sGo X k d (pc + 3) L (.int (if x < y then y else x) :: st) h Q) : sGo X k d pc L (.int y :: .int x :: st) h Q := go_spec hF rfl hcat rfl g
theorem g_min {x y : Int32} (hF : sFk k pc = some (.invokestatic 1001)) (hcat : ((Value.int y :: Value.int x :: st).map (fun v => v.category)).sum ≤ 10) (g : sGo X k d (pc + 3) L (.int (if y < x then y else x) :: st) h Q) : sGo X k d pc L (.int y :: .int x :: st) h Q := go_spec hF rfl hcat rfl g
theorem g_abs {x : Int32} (hF : sFk k pc = some (.invokestatic 1002)) (hcat : ((Value.int x :: st).map (fun v => v.category)).sum ≤ 10) (g : sGo X k d (pc + 3) L (.int (if 0 ≤ x then x else 0 - x) :: st) h Q) : sGo X k d pc L (.int x :: st) h Q := go_spec hF rfl hcat rfl g
theorem g_static0 {k1 : Nat} {Qc : Option Value → sHp → Prop} (hF : sFk k pc = some (.invokestatic k1)) (hk : k1 < 1000) (hn : sNA k1 = 0) (hcat : (st.map (fun v => v.category)).sum ≤ 8) (hD : sDo d k1 [] h Qc) (g : ∀ (r : Option Value) (h1 : sHp), Qc r h1 → sGo X k d (pc + 3) L (r.toList ++ st) h1 Q) : sGo X k d pc L (st) h Q := go_call hF (if_pos hk) (by show (sPop (sNA k1) (st)).map _ = _; rw [(show sPop (sNA k1) (st) = some ([], st) by rw [hn]; unfold sPop; rw [if_pos (by first | exact Nat.zero_le _ | (simp only [List.length_cons]; omega))]; rfl)]; rfl) hcat hD g
theorem g_init0 {k1 : Nat} {a : Nat} {x : Nat × List Value} {Qc : Option Value → sHp → Prop} (hF : sFk k pc = some (.invokespecial k1)) (hk : k1 < 1000) (hn : sNA k1 = 0) (ha : h[a]? = some (.inr x)) (hcat : (st.map (fun v => v.category)).sum ≤ 8) (hD : sDo d k1 (.ref a :: []) h Qc) (g : ∀ (r : Option Value) (h1 : sHp), Qc r h1 → sGo X k d (pc + 3) L (r.toList ++ st) h1 Q) : sGo X k d pc L (.ref a :: st) h Q := go_call hF (if_pos hk) (by show (sPop (sNA k1) (.ref a :: st)).bind _ = _; rw [(show sPop (sNA k1) (.ref a :: st) = some ([], .ref a :: st) by rw [hn]; unfold sPop; rw [if_pos (by first | exact Nat.zero_le _ | (simp only [List.length_cons]; omega))]; rfl), Option.bind_some]; dsimp only; rw [ha]) hcat hD g
theorem g_virt0 {k1 : Nat} {a : Nat} {ci : Nat} {fs : List Value} {Qc : Option Value → sHp → Prop} (hF : sFk k pc = some (.invokevirtual k1)) (hk : k1 < 1000) (hn : sNA k1 = 0) (ha : h[a]? = some (.inr (ci, fs))) (ho : sOwn k1 = ci) (hcat : (st.map (fun v => v.category)).sum ≤ 8) (hD : sDo d k1 (.ref a :: []) h Qc) (g : ∀ (r : Option Value) (h1 : sHp), Qc r h1 → sGo X k d (pc + 3) L (r.toList ++ st) h1 Q) : sGo X k d pc L (.ref a :: st) h Q := go_call hF rfl (by show (if k1 < 1000 then (sPop (sNA k1) (.ref a :: st)).bind _ else _) = _; rw [if_pos hk, (show sPop (sNA k1) (.ref a :: st) = some ([], .ref a :: st) by rw [hn]; unfold sPop; rw [if_pos (by first | exact Nat.zero_le _ | (simp only [List.length_cons]; omega))]; rfl), Option.bind_some]; dsimp only; rw [ha]; dsimp only; rw [if_pos ho.symm]) hcat hD g
theorem g_static1 {k1 : Nat} {v0 : Value} {Qc : Option Value → sHp → Prop} (hF : sFk k pc = some (.invokestatic k1)) (hk : k1 < 1000) (hn : sNA k1 = 1) (hcat : (st.map (fun v => v.category)).sum ≤ 8) (hD : sDo d k1 [v0] h Qc) (g : ∀ (r : Option Value) (h1 : sHp), Qc r h1 → sGo X k d (pc + 3) L (r.toList ++ st) h1 Q) : sGo X k d pc L (v0 :: st) h Q := go_call hF (if_pos hk) (by show (sPop (sNA k1) (v0 :: st)).map _ = _; rw [(show sPop (sNA k1) (v0 :: st) = some ([v0], st) by rw [hn]; unfold sPop; rw [if_pos (by first | exact Nat.zero_le _ | (simp only [List.length_cons]; omega))]; rfl)]; rfl) hcat hD g
theorem g_init1 {k1 : Nat} {a : Nat} {v0 : Value} {x : Nat × List Value} {Qc : Option Value → sHp → Prop} (hF : sFk k pc = some (.invokespecial k1)) (hk : k1 < 1000) (hn : sNA k1 = 1) (ha : h[a]? = some (.inr x)) (hcat : (st.map (fun v => v.category)).sum ≤ 8) (hD : sDo d k1 (.ref a :: [v0]) h Qc) (g : ∀ (r : Option Value) (h1 : sHp), Qc r h1 → sGo X k d (pc + 3) L (r.toList ++ st) h1 Q) : sGo X k d pc L (v0 :: .ref a :: st) h Q := go_call hF (if_pos hk) (by show (sPop (sNA k1) (v0 :: .ref a :: st)).bind _ = _; rw [(show sPop (sNA k1) (v0 :: .ref a :: st) = some ([v0], .ref a :: st) by rw [hn]; unfold sPop; rw [if_pos (by first | exact Nat.zero_le _ | (simp only [List.length_cons]; omega))]; rfl), Option.bind_some]; dsimp only; rw [ha]) hcat hD g
theorem g_virt1 {k1 : Nat} {a : Nat} {v0 : Value} {ci : Nat} {fs : List Value} {Qc : Option Value → sHp → Prop} (hF : sFk k pc = some (.invokevirtual k1)) (hk : k1 < 1000) (hn : sNA k1 = 1) (ha : h[a]? = some (.inr (ci, fs))) (ho : sOwn k1 = ci) (hcat : (st.map (fun v => v.category)).sum ≤ 8) (hD : sDo d k1 (.ref a :: [v0]) h Qc) (g : ∀ (r : Option Value) (h1 : sHp), Qc r h1 → sGo X k d (pc + 3) L (r.toList ++ st) h1 Q) : sGo X k d pc L (v0 :: .ref a :: st) h Q := go_call hF rfl (by show (if k1 < 1000 then (sPop (sNA k1) (v0 :: .ref a :: st)).bind _ else _) = _; rw [if_pos hk, (show sPop (sNA k1) (v0 :: .ref a :: st) = some ([v0], .ref a :: st) by rw [hn]; unfold sPop; rw [if_pos (by first | exact Nat.zero_le _ | (simp only [List.length_cons]; omega))]; rfl), Option.bind_some]; dsimp only; rw [ha]; dsimp only; rw [if_pos ho.symm]) hcat hD g
theorem g_static2 {k1 : Nat} {v0 v1 : Value} {Qc : Option Value → sHp → Prop} (hF : sFk k pc = some (.invokestatic k1)) (hk : k1 < 1000) (hn : sNA k1 = 2) (hcat : (st.map (fun v => v.category)).sum ≤ 8) (hD : sDo d k1 [v0, v1] h Qc) (g : ∀ (r : Option Value) (h1 : sHp), Qc r h1 → sGo X k d (pc + 3) L (r.toList ++ st) h1 Q) : sGo X k d pc L (v1 :: v0 :: st) h Q := go_call hF (if_pos hk) (by show (sPop (sNA k1) (v1 :: v0 :: st)).map _ = _; rw [(show sPop (sNA k1) (v1 :: v0 :: st) = some ([v0, v1], st) by rw [hn]; unfold sPop; rw [if_pos (by first | exact Nat.zero_le _ | (simp only [List.length_cons]; omega))]; rfl)]; rfl) hcat hD g
theorem g_init2 {k1 : Nat} {a : Nat} {v0 v1 : Value} {x : Nat × List Value} {Qc : Option Value → sHp → Prop} (hF : sFk k pc = some (.invokespecial k1)) (hk : k1 < 1000) (hn : sNA k1 = 2) (ha : h[a]? = some (.inr x)) (hcat : (st.map (fun v => v.category)).sum ≤ 8) (hD : sDo d k1 (.ref a :: [v0, v1]) h Qc) (g : ∀ (r : Option Value) (h1 : sHp), Qc r h1 → sGo X k d (pc + 3) L (r.toList ++ st) h1 Q) : sGo X k d pc L (v1 :: v0 :: .ref a :: st) h Q := go_call hF (if_pos hk) (by show (sPop (sNA k1) (v1 :: v0 :: .ref a :: st)).bind _ = _; rw [(show sPop (sNA k1) (v1 :: v0 :: .ref a :: st) = some ([v0, v1], .ref a :: st) by rw [hn]; unfold sPop; rw [if_pos (by first | exact Nat.zero_le _ | (simp only [List.length_cons]; omega))]; rfl), Option.bind_some]; dsimp only; rw [ha]) hcat hD g
theorem g_virt2 {k1 : Nat} {a : Nat} {v0 v1 : Value} {ci : Nat} {fs : List Value} {Qc : Option Value → sHp → Prop} (hF : sFk k pc = some (.invokevirtual k1)) (hk : k1 < 1000) (hn : sNA k1 = 2) (ha : h[a]? = some (.inr (ci, fs))) (ho : sOwn k1 = ci) (hcat : (st.map (fun v => v.category)).sum ≤ 8) (hD : sDo d k1 (.ref a :: [v0, v1]) h Qc) (g : ∀ (r : Option Value) (h1 : sHp), Qc r h1 → sGo X k d (pc + 3) L (r.toList ++ st) h1 Q) : sGo X k d pc L (v1 :: v0 :: .ref a :: st) h Q := go_call hF rfl (by show (if k1 < 1000 then (sPop (sNA k1) (v1 :: v0 :: .ref a :: st)).bind _ else _) = _; rw [if_pos hk, (show sPop (sNA k1) (v1 :: v0 :: .ref a :: st) = some ([v0, v1], .ref a :: st) by rw [hn]; unfold sPop; rw [if_pos (by first | exact Nat.zero_le _ | (simp only [List.length_cons]; omega))]; rfl), Option.bind_some]; dsimp only; rw [ha]; dsimp only; rw [if_pos ho.symm]) hcat hD g
theorem g_static3 {k1 : Nat} {v0 v1 v2 : Value} {Qc : Option Value → sHp → Prop} (hF : sFk k pc = some (.invokestatic k1)) (hk : k1 < 1000) (hn : sNA k1 = 3) (hcat : (st.map (fun v => v.category)).sum ≤ 8) (hD : sDo d k1 [v0, v1, v2] h Qc) (g : ∀ (r : Option Value) (h1 : sHp), Qc r h1 → sGo X k d (pc + 3) L (r.toList ++ st) h1 Q) : sGo X k d pc L (v2 :: v1 :: v0 :: st) h Q := go_call hF (if_pos hk) (by show (sPop (sNA k1) (v2 :: v1 :: v0 :: st)).map _ = _; rw [(show sPop (sNA k1) (v2 :: v1 :: v0 :: st) = some ([v0, v1, v2], st) by rw [hn]; unfold sPop; rw [if_pos (by first | exact Nat.zero_le _ | (simp only [List.length_cons]; omega))]; rfl)]; rfl) hcat hD g
theorem g_init3 {k1 : Nat} {a : Nat} {v0 v1 v2 : Value} {x : Nat × List Value} {Qc : Option Value → sHp → Prop} (hF : sFk k pc = some (.invokespecial k1)) (hk : k1 < 1000) (hn : sNA k1 = 3) (ha : h[a]? = some (.inr x)) (hcat : (st.map (fun v => v.category)).sum ≤ 8) (hD : sDo d k1 (.ref a :: [v0, v1, v2]) h Qc) (g : ∀ (r : Option Value) (h1 : sHp), Qc r h1 → sGo X k d (pc + 3) L (r.toList ++ st) h1 Q) : sGo X k d pc L (v2 :: v1 :: v0 :: .ref a :: st) h Q := go_call hF (if_pos hk) (by show (sPop (sNA k1) (v2 :: v1 :: v0 :: .ref a :: st)).bind _ = _; rw [(show sPop (sNA k1) (v2 :: v1 :: v0 :: .ref a :: st) = some ([v0, v1, v2], .ref a :: st) by rw [hn]; unfold sPop; rw [if_pos (by first | exact Nat.zero_le _ | (simp only [List.length_cons]; omega))]; rfl), Option.bind_some]; dsimp only; rw [ha]) hcat hD g
theorem g_virt3 {k1 : Nat} {a : Nat} {v0 v1 v2 : Value} {ci : Nat} {fs : List Value} {Qc : Option Value → sHp → Prop} (hF : sFk k pc = some (.invokevirtual k1)) (hk : k1 < 1000) (hn : sNA k1 = 3) (ha : h[a]? = some (.inr (ci, fs))) (ho : sOwn k1 = ci) (hcat : (st.map (fun v => v.category)).sum ≤ 8) (hD : sDo d k1 (.ref a :: [v0, v1, v2]) h Qc) (g : ∀ (r : Option Value) (h1 : sHp), Qc r h1 → sGo X k d (pc + 3) L (r.toList ++ st) h1 Q) : sGo X k d pc L (v2 :: v1 :: v0 :: .ref a :: st) h Q := go_call hF rfl (by show (if k1 < 1000 then (sPop (sNA k1) (v2 :: v1 :: v0 :: .ref a :: st)).bind _ else _) = _; rw [if_pos hk, (show sPop (sNA k1) (v2 :: v1 :: v0 :: .ref a :: st) = some ([v0, v1, v2], .ref a :: st) by rw [hn]; unfold sPop; rw [if_pos (by first | exact Nat.zero_le _ | (simp only [List.length_cons]; omega))]; rfl), Option.bind_some]; dsimp only; rw [ha]; dsimp only; rw [if_pos ho.symm]) hcat hD g
theorem g_static4 {k1 : Nat} {v0 v1 v2 v3 : Value} {Qc : Option Value → sHp → Prop} (hF : sFk k pc = some (.invokestatic k1)) (hk : k1 < 1000) (hn : sNA k1 = 4) (hcat : (st.map (fun v => v.category)).sum ≤ 8) (hD : sDo d k1 [v0, v1, v2, v3] h Qc) (g : ∀ (r : Option Value) (h1 : sHp), Qc r h1 → sGo X k d (pc + 3) L (r.toList ++ st) h1 Q) : sGo X k d pc L (v3 :: v2 :: v1 :: v0 :: st) h Q := go_call hF (if_pos hk) (by show (sPop (sNA k1) (v3 :: v2 :: v1 :: v0 :: st)).map _ = _; rw [(show sPop (sNA k1) (v3 :: v2 :: v1 :: v0 :: st) = some ([v0, v1, v2, v3], st) by rw [hn]; unfold sPop; rw [if_pos (by first | exact Nat.zero_le _ | (simp only [List.length_cons]; omega))]; rfl)]; rfl) hcat hD g
theorem g_init4 {k1 : Nat} {a : Nat} {v0 v1 v2 v3 : Value} {x : Nat × List Value} {Qc : Option Value → sHp → Prop} (hF : sFk k pc = some (.invokespecial k1)) (hk : k1 < 1000) (hn : sNA k1 = 4) (ha : h[a]? = some (.inr x)) (hcat : (st.map (fun v => v.category)).sum ≤ 8) (hD : sDo d k1 (.ref a :: [v0, v1, v2, v3]) h Qc) (g : ∀ (r : Option Value) (h1 : sHp), Qc r h1 → sGo X k d (pc + 3) L (r.toList ++ st) h1 Q) : sGo X k d pc L (v3 :: v2 :: v1 :: v0 :: .ref a :: st) h Q := go_call hF (if_pos hk) (by show (sPop (sNA k1) (v3 :: v2 :: v1 :: v0 :: .ref a :: st)).bind _ = _; rw [(show sPop (sNA k1) (v3 :: v2 :: v1 :: v0 :: .ref a :: st) = some ([v0, v1, v2, v3], .ref a :: st) by rw [hn]; unfold sPop; rw [if_pos (by first | exact Nat.zero_le _ | (simp only [List.length_cons]; omega))]; rfl), Option.bind_some]; dsimp only; rw [ha]) hcat hD g
theorem g_virt4 {k1 : Nat} {a : Nat} {v0 v1 v2 v3 : Value} {ci : Nat} {fs : List Value} {Qc : Option Value → sHp → Prop} (hF : sFk k pc = some (.invokevirtual k1)) (hk : k1 < 1000) (hn : sNA k1 = 4) (ha : h[a]? = some (.inr (ci, fs))) (ho : sOwn k1 = ci) (hcat : (st.map (fun v => v.category)).sum ≤ 8) (hD : sDo d k1 (.ref a :: [v0, v1, v2, v3]) h Qc) (g : ∀ (r : Option Value) (h1 : sHp), Qc r h1 → sGo X k d (pc + 3) L (r.toList ++ st) h1 Q) : sGo X k d pc L (v3 :: v2 :: v1 :: v0 :: .ref a :: st) h Q := go_call hF rfl (by show (if k1 < 1000 then (sPop (sNA k1) (v3 :: v2 :: v1 :: v0 :: .ref a :: st)).bind _ else _) = _; rw [if_pos hk, (show sPop (sNA k1) (v3 :: v2 :: v1 :: v0 :: .ref a :: st) = some ([v0, v1, v2, v3], .ref a :: st) by rw [hn]; unfold sPop; rw [if_pos (by first | exact Nat.zero_le _ | (simp only [List.length_cons]; omega))]; rfl), Option.bind_some]; dsimp only; rw [ha]; dsimp only; rw [if_pos ho.symm]) hcat hD g
theorem g_static5 {k1 : Nat} {v0 v1 v2 v3 v4 : Value} {Qc : Option Value → sHp → Prop} (hF : sFk k pc = some (.invokestatic k1)) (hk : k1 < 1000) (hn : sNA k1 = 5) (hcat : (st.map (fun v => v.category)).sum ≤ 8) (hD : sDo d k1 [v0, v1, v2, v3, v4] h Qc) (g : ∀ (r : Option Value) (h1 : sHp), Qc r h1 → sGo X k d (pc + 3) L (r.toList ++ st) h1 Q) : sGo X k d pc L (v4 :: v3 :: v2 :: v1 :: v0 :: st) h Q := go_call hF (if_pos hk) (by show (sPop (sNA k1) (v4 :: v3 :: v2 :: v1 :: v0 :: st)).map _ = _; rw [(show sPop (sNA k1) (v4 :: v3 :: v2 :: v1 :: v0 :: st) = some ([v0, v1, v2, v3, v4], st) by rw [hn]; unfold sPop; rw [if_pos (by first | exact Nat.zero_le _ | (simp only [List.length_cons]; omega))]; rfl)]; rfl) hcat hD g
theorem g_init5 {k1 : Nat} {a : Nat} {v0 v1 v2 v3 v4 : Value} {x : Nat × List Value} {Qc : Option Value → sHp → Prop} (hF : sFk k pc = some (.invokespecial k1)) (hk : k1 < 1000) (hn : sNA k1 = 5) (ha : h[a]? = some (.inr x)) (hcat : (st.map (fun v => v.category)).sum ≤ 8) (hD : sDo d k1 (.ref a :: [v0, v1, v2, v3, v4]) h Qc) (g : ∀ (r : Option Value) (h1 : sHp), Qc r h1 → sGo X k d (pc + 3) L (r.toList ++ st) h1 Q) : sGo X k d pc L (v4 :: v3 :: v2 :: v1 :: v0 :: .ref a :: st) h Q := go_call hF (if_pos hk) (by show (sPop (sNA k1) (v4 :: v3 :: v2 :: v1 :: v0 :: .ref a :: st)).bind _ = _; rw [(show sPop (sNA k1) (v4 :: v3 :: v2 :: v1 :: v0 :: .ref a :: st) = some ([v0, v1, v2, v3, v4], .ref a :: st) by rw [hn]; unfold sPop; rw [if_pos (by first | exact Nat.zero_le _ | (simp only [List.length_cons]; omega))]; rfl), Option.bind_some]; dsimp only; rw [ha]) hcat hD g
theorem g_virt5 {k1 : Nat} {a : Nat} {v0 v1 v2 v3 v4 : Value} {ci : Nat} {fs : List Value} {Qc : Option Value → sHp → Prop} (hF : sFk k pc = some (.invokevirtual k1)) (hk : k1 < 1000) (hn : sNA k1 = 5) (ha : h[a]? = some (.inr (ci, fs))) (ho : sOwn k1 = ci) (hcat : (st.map (fun v => v.category)).sum ≤ 8) (hD : sDo d k1 (.ref a :: [v0, v1, v2, v3, v4]) h Qc) (g : ∀ (r : Option Value) (h1 : sHp), Qc r h1 → sGo X k d (pc + 3) L (r.toList ++ st) h1 Q) : sGo X k d pc L (v4 :: v3 :: v2 :: v1 :: v0 :: .ref a :: st) h Q := go_call hF rfl (by show (if k1 < 1000 then (sPop (sNA k1) (v4 :: v3 :: v2 :: v1 :: v0 :: .ref a :: st)).bind _ else _) = _; rw [if_pos hk, (show sPop (sNA k1) (v4 :: v3 :: v2 :: v1 :: v0 :: .ref a :: st) = some ([v0, v1, v2, v3, v4], .ref a :: st) by rw [hn]; unfold sPop; rw [if_pos (by first | exact Nat.zero_le _ | (simp only [List.length_cons]; omega))]; rfl), Option.bind_some]; dsimp only; rw [ha]; dsimp only; rw [if_pos ho.symm]) hcat hD g
theorem g_static6 {k1 : Nat} {v0 v1 v2 v3 v4 v5 : Value} {Qc : Option Value → sHp → Prop} (hF : sFk k pc = some (.invokestatic k1)) (hk : k1 < 1000) (hn : sNA k1 = 6) (hcat : (st.map (fun v => v.category)).sum ≤ 8) (hD : sDo d k1 [v0, v1, v2, v3, v4, v5] h Qc) (g : ∀ (r : Option Value) (h1 : sHp), Qc r h1 → sGo X k d (pc + 3) L (r.toList ++ st) h1 Q) : sGo X k d pc L (v5 :: v4 :: v3 :: v2 :: v1 :: v0 :: st) h Q := go_call hF (if_pos hk) (by show (sPop (sNA k1) (v5 :: v4 :: v3 :: v2 :: v1 :: v0 :: st)).map _ = _; rw [(show sPop (sNA k1) (v5 :: v4 :: v3 :: v2 :: v1 :: v0 :: st) = some ([v0, v1, v2, v3, v4, v5], st) by rw [hn]; unfold sPop; rw [if_pos (by first | exact Nat.zero_le _ | (simp only [List.length_cons]; omega))]; rfl)]; rfl) hcat hD g
theorem g_init6 {k1 : Nat} {a : Nat} {v0 v1 v2 v3 v4 v5 : Value} {x : Nat × List Value} {Qc : Option Value → sHp → Prop} (hF : sFk k pc = some (.invokespecial k1)) (hk : k1 < 1000) (hn : sNA k1 = 6) (ha : h[a]? = some (.inr x)) (hcat : (st.map (fun v => v.category)).sum ≤ 8) (hD : sDo d k1 (.ref a :: [v0, v1, v2, v3, v4, v5]) h Qc) (g : ∀ (r : Option Value) (h1 : sHp), Qc r h1 → sGo X k d (pc + 3) L (r.toList ++ st) h1 Q) : sGo X k d pc L (v5 :: v4 :: v3 :: v2 :: v1 :: v0 :: .ref a :: st) h Q := go_call hF (if_pos hk) (by show (sPop (sNA k1) (v5 :: v4 :: v3 :: v2 :: v1 :: v0 :: .ref a :: st)).bind _ = _; rw [(show sPop (sNA k1) (v5 :: v4 :: v3 :: v2 :: v1 :: v0 :: .ref a :: st) = some ([v0, v1, v2, v3, v4, v5], .ref a :: st) by rw [hn]; unfold sPop; rw [if_pos (by first | exact Nat.zero_le _ | (simp only [List.length_cons]; omega))]; rfl), Option.bind_some]; dsimp only; rw [ha]) hcat hD g
theorem g_virt6 {k1 : Nat} {a : Nat} {v0 v1 v2 v3 v4 v5 : Value} {ci : Nat} {fs : List Value} {Qc : Option Value → sHp → Prop} (hF : sFk k pc = some (.invokevirtual k1)) (hk : k1 < 1000) (hn : sNA k1 = 6) (ha : h[a]? = some (.inr (ci, fs))) (ho : sOwn k1 = ci) (hcat : (st.map (fun v => v.category)).sum ≤ 8) (hD : sDo d k1 (.ref a :: [v0, v1, v2, v3, v4, v5]) h Qc) (g : ∀ (r : Option Value) (h1 : sHp), Qc r h1 → sGo X k d (pc + 3) L (r.toList ++ st) h1 Q) : sGo X k d pc L (v5 :: v4 :: v3 :: v2 :: v1 :: v0 :: .ref a :: st) h Q := go_call hF rfl (by show (if k1 < 1000 then (sPop (sNA k1) (v5 :: v4 :: v3 :: v2 :: v1 :: v0 :: .ref a :: st)).bind _ else _) = _; rw [if_pos hk, (show sPop (sNA k1) (v5 :: v4 :: v3 :: v2 :: v1 :: v0 :: .ref a :: st) = some ([v0, v1, v2, v3, v4, v5], .ref a :: st) by rw [hn]; unfold sPop; rw [if_pos (by first | exact Nat.zero_le _ | (simp only [List.length_cons]; omega))]; rfl), Option.bind_some]; dsimp only; rw [ha]; dsimp only; rw [if_pos ho.symm]) hcat hD g
theorem g_fam {k1 a ci : Nat} {v0 : Value} {fs : List Value} {Qc : Option Value → sHp → Prop} (hF : sFk k pc = some (.invokevirtual k1)) (hk : ¬ k1 < 1000) (ha : h[a]? = some (.inr (ci, fs))) (hc : sGrp ci = 2 ∧ ci < 11) (hcat : (st.map (fun v => v.category)).sum ≤ 8) (hD : sDo d (sVt k1 ci) [.ref a, v0] h Qc) (g : ∀ (r : Option Value) (h1 : sHp), Qc r h1 → sGo X k d (pc + 3) L (r.toList ++ st) h1 Q) : sGo X k d pc L (v0 :: .ref a :: st) h Q := go_call hF rfl (by show (if k1 < 1000 then _ else (sPop (sVt k1 100) (v0 :: .ref a :: st)).bind _) = _; rw [if_neg hk, show sPop (sVt k1 100) (v0 :: .ref a :: st) = some ([v0], .ref a :: st) by (rw [show sVt k1 100 = 1 from rfl]; unfold sPop; rw [if_pos (by simp only [List.length_cons]; omega)]; rfl), Option.bind_some]; dsimp only; rw [ha]; dsimp only; rw [if_pos hc]) hcat hD g
end GO
end
section
/-! ===== the run with unknown numbers: terms for values, bounds for ints ===== -/
abbrev aIn : Type := (Nat → Int32) × (Nat → Int64) × (Nat → va_E)
abbrev tM : Type := Jvm.Term
def vI (v : Value) : Int32 := match v with
  | .int x => x
  | _ => 0
def vL (v : Value) : Int64 := match v with
  | .long x => x
  | _ => 0
def vR (v : Value) : Option Nat := match v with
  | .ref k => some k
  | _ => none
def o2 (o : Jvm.Binary) (x y : Value) : Value := match o with
  | .iand => .int (vI x &&& vI y)
  | .ior => .int (vI x ||| vI y)
  | .ixor => .int (vI x ^^^ vI y)
  | .ishl => .int (vI x <<< (vI y &&& 31))
  | .ishr => .int (vI x >>> (vI y &&& 31))
  | .ladd => .long (vL x + vL y)
  | .lsub => .long (vL x - vL y)
  | .land => .long (vL x &&& vL y)
  | .lor => .long (vL x ||| vL y)
  | .lxor => .long (vL x ^^^ vL y)
  | .lshl => .long (vL x <<< ((vI y).toInt64 &&& 63))
  | .lshr => .long (vL x >>> ((vI y).toInt64 &&& 63))
  | .lushr => .long ((vL x).toUInt64 >>> ((vI y).toInt64.toUInt64 &&& Int64.toUInt64 63)).toInt64
  | .lcmp => .int (lg_cmp (vL x) (vL y))
  | _ => .null
def k2 (o : Jvm.Binary) : Nat := match o with
  | .iand => 0
  | .ior => 0
  | .ixor => 0
  | .ishl => 0
  | .ishr => 0
  | .lcmp => 0
  | .ladd => 1
  | .lsub => 1
  | .land => 1
  | .lor => 1
  | .lxor => 1
  | .lshl => 1
  | .lshr => 1
  | .lushr => 1
  | _ => 3
def o1 (o : Jvm.Unary) (x : Value) : Value := match o with
  | .ineg => .int (-(vI x))
  | .lneg => .long (-(vL x))
  | .i2l => .long (vI x).toInt64
  | .l2i => .int (vL x).toInt32
  | .i2b => .int (vI x).toInt8.toInt32
  | .i2s => .int (vI x).toInt16.toInt32
  | .i2c => .int ((vI x).toUInt32 % 65536).toInt32
  | _ => .null
def k1 (o : Jvm.Unary) : Nat := match o with
  | .ineg => 0
  | .l2i => 0
  | .i2b => 0
  | .i2s => 0
  | .i2c => 0
  | .lneg => 1
  | .i2l => 1
  | _ => 3
def eT (ι : aIn) (t : tM) : Value := match t with
  | .int v => .int v
  | .long v => .long v
  | .arg i => if i < 1000 then .int (ι.1 i) else .long (ι.2.1 (i - 1000))
  | .index k => .ref k
  | .add a b => .int (vI (eT ι a) + vI (eT ι b))
  | .sub a b => .int (vI (eT ι a) - vI (eT ι b))
  | .mul a b => .int (vI (eT ι a) * vI (eT ι b))
  | .div a b => .int (vI (eT ι a) / vI (eT ι b))
  | .rem a b => .int (vI (eT ι a) - vI (eT ι a) / vI (eT ι b) * vI (eT ι b))
  | .op2 o a b => o2 o (eT ι a) (eT ι b)
  | .op1 o a => o1 o (eT ι a)
  | _ => .null
/-- int 0, long 1, reference 2 -/
def kT (t : tM) : Nat := match t with
  | .int _ => 0
  | .long _ => 1
  | .arg i => if i < 1000 then 0 else 1
  | .index _ => 2
  | .null => 2
  | .add _ _ => 0
  | .sub _ _ => 0
  | .mul _ _ => 0
  | .div _ _ => 0
  | .rem _ _ => 0
  | .op2 o _ _ => k2 o
  | .op1 o _ => k1 o
  | _ => 3
theorem kT_0 {ι : aIn} {t : tM} (h : kT t = 0) : eT ι t = .int (vI (eT ι t)) := by
  cases t <;> first | rfl | (simp [kT] at h; done) | skip
  · rename_i i
    unfold eT
    by_cases hi : i < 1000
    · rw [if_pos hi]; rfl
    · simp [kT, hi] at h
  · rename_i o a b
    cases o <;> first | rfl | (simp [kT, k2] at h)
  · rename_i o a
    cases o <;> first | rfl | (simp [kT, k1] at h)
theorem kT_1 {ι : aIn} {t : tM} (h : kT t = 1) : eT ι t = .long (vL (eT ι t)) := by
  cases t <;> first | rfl | (simp [kT] at h; done) | skip
  · rename_i i
    unfold eT
    by_cases hi : i < 1000
    · simp [kT, hi] at h
    · rw [if_neg hi]; rfl
  · rename_i o a b
    cases o <;> first | rfl | (simp [kT, k2] at h)
  · rename_i o a
    cases o <;> first | rfl | (simp [kT, k1] at h)
theorem kT_2 {ι : aIn} {t : tM} (h : kT t = 2) : (∃ k, t = .index k) ∨ t = .null := by
  cases t <;> first | exact Or.inl ⟨_, rfl⟩ | exact Or.inr rfl | (simp [kT] at h; done) | skip
  · rename_i i
    by_cases hi : i < 1000 <;> simp [kT, hi] at h
  · rename_i o a b
    cases o <;> simp [kT, k2] at h
  · rename_i o a
    cases o <;> simp [kT, k1] at h
theorem kT_eT {ι : aIn} {t : tM} {x : Int64} (h : eT ι t = .long x) : kT t = 1 := by
  unfold eT at h
  split at h
  all_goals first | rfl | (cases h; done) | skip
  · rename_i i
    split at h
    · cases h
    · rename_i hi
      simp [kT, hi]
  · rename_i o a b
    cases o <;> first | rfl | (cases h)
  · rename_i o a
    cases o <;> first | rfl | (cases h)
theorem eT_cat (ι : aIn) (t : tM) : (eT ι t).category = if kT t = 1 then 2 else 1 := by
  by_cases h : kT t = 1
  · rw [kT_1 h, if_pos h]; rfl
  · rw [if_neg h]
    cases he : eT ι t with
    | long x => exact absurd (kT_eT he) h
    | double x =>
      exfalso
      unfold eT at he
      split at he
      all_goals first | (cases he; done) | skip
      · split at he <;> cases he
      · rename_i o a b
        cases o <;> cases he
      · rename_i o a
        cases o <;> cases he
    | _ => rfl
theorem eT_nd (ι : aIn) (t : tM) : sNd (eT ι t) = true := by
  cases he : eT ι t with
  | double x =>
    exfalso
    unfold eT at he
    split at he
    all_goals first | (cases he; done) | skip
    · split at he <;> cases he
    · rename_i o a b
      cases o <;> cases he
    · rename_i o a
      cases o <;> cases he
  | _ => rfl
/-! numbers brought to one shape -/
def aFc {α : Type} (z : Int) (f : Int → α) : α := match z with
  | .ofNat n => (match n with
    | 0 => f 0
    | m + 1 => f (Int.ofNat (m + 1)))
  | .negSucc n => (match n with
    | 0 => f (Int.negSucc 0)
    | m + 1 => f (Int.negSucc (m + 1)))
theorem aFc_eq {α : Type} (z : Int) (f : Int → α) : aFc z f = f z := by
  cases z with
  | ofNat n => cases n <;> rfl
  | negSucc n => cases n <;> rfl
def aF {α : Type} (n : Nat) (f : Nat → α) : α := match n with
  | 0 => f 0
  | m + 1 => f (m + 1)
theorem aF_eq {α : Type} (n : Nat) (f : Nat → α) : aF n f = f n := by cases n <;> rfl
def aCi (z : Int) : tM := aFc z (fun z => .int (Int32.ofInt z))
def aCl (x : Int64) : tM := aFc x.toInt (fun z => .long (Int64.ofInt z))
theorem aCi_ok (ι : aIn) (z : Int) : eT ι (aCi z) = .int (Int32.ofInt z) := by unfold aCi; rw [aFc_eq]; rfl
theorem aCl_ok (ι : aIn) (x : Int64) : eT ι (aCl x) = .long x := by unfold aCl; rw [aFc_eq]; show Value.long _ = _; rw [Int64.ofInt_toInt]
theorem aCi_k (z : Int) : kT (aCi z) = 0 := by unfold aCi; rw [aFc_eq]; rfl
theorem aCl_k (x : Int64) : kT (aCl x) = 1 := by unfold aCl; rw [aFc_eq]; rfl
/-! the same term -/
def tBq : Nat → tM → tM → Bool
  | 0, _, _ => false
  | n + 1, a, b => match a with
    | .int x => (match b with
      | .int y => decide (x.toInt = y.toInt)
      | _ => false)
    | .long x => (match b with
      | .long y => decide (x.toInt = y.toInt)
      | _ => false)
    | .null => (match b with
      | .null => true
      | _ => false)
    | .index k => (match b with
      | .index j => Nat.beq k j
      | _ => false)
    | .arg k => (match b with
      | .arg j => Nat.beq k j
      | _ => false)
    | .add p q => (match b with
      | .add r s => tBq n p r && tBq n q s
      | _ => false)
    | .sub p q => (match b with
      | .sub r s => tBq n p r && tBq n q s
      | _ => false)
    | .mul p q => (match b with
      | .mul r s => tBq n p r && tBq n q s
      | _ => false)
    | .div p q => (match b with
      | .div r s => tBq n p r && tBq n q s
      | _ => false)
    | .rem p q => (match b with
      | .rem r s => tBq n p r && tBq n q s
      | _ => false)
    | .op2 o p q => (match b with
      | .op2 o' r s => decide (o = o') && (tBq n p r && tBq n q s)
      | _ => false)
    | .op1 o p => (match b with
      | .op1 o' r => decide (o = o') && tBq n p r
      | _ => false)
    | _ => false
theorem tBq_eq : ∀ (n : Nat) (a b : tM), tBq n a b = true → a = b := by
  intro n
  induction n with
  | zero => intro a b h; cases h
  | succ n ih =>
    intro a b h
    unfold tBq at h
    split at h
    all_goals (try split at h)
    all_goals first | (cases h; done) | rfl | skip
    · rw [Int32.toInt_inj.mp (of_decide_eq_true h)]
    · rw [Int64.toInt_inj.mp (of_decide_eq_true h)]
    · rw [Nat.eq_of_beq_eq_true h]
    · rw [Nat.eq_of_beq_eq_true h]
    all_goals
      simp only [Bool.and_eq_true, decide_eq_true_eq] at h
      first
      | (obtain ⟨h1, h2⟩ := h; rw [ih _ _ h1, ih _ _ h2]; done)
      | (obtain ⟨h0, h1, h2⟩ := h; rw [h0, ih _ _ h1, ih _ _ h2]; done)
      | (obtain ⟨h0, h1⟩ := h; rw [h0, ih _ _ h1]; done)
/-! bounds -/
abbrev aG : Type := List (tM × Int × Int)
abbrev aZ (ι : aIn) (t : tM) : Int := (vI (eT ι t)).toInt
def aOk (ι : aIn) (G : aG) : Prop := ∀ e ∈ G, e.2.1 ≤ aZ ι e.1 ∧ aZ ι e.1 ≤ e.2.2
def aW (v : Int) (p : Int × Int) : Prop := p.1 ≤ v ∧ v ≤ p.2
def aFull : Int × Int := (-2147483648, 2147483647)
theorem aFull_ok (x : Int32) : aW x.toInt aFull := by
  have h1 := x.le_toInt
  have h2 := x.toInt_lt
  unfold aW aFull
  constructor <;> simp <;> omega
def aOr (t : tM) : aG → Option (Int × Int)
  | [] => none
  | e :: r => bif tBq 24 e.1 t then some e.2 else aOr t r
theorem aOr_ok {ι : aIn} {t : tM} {p : Int × Int} : ∀ {G : aG}, aOk ι G → aOr t G = some p → aW (aZ ι t) p := by
  intro G
  induction G with
  | nil => intro _ h; cases h
  | cons e r ih =>
    intro hG h
    unfold aOr at h
    cases hb : tBq 24 e.1 t with
    | true =>
      rw [hb] at h
      have h1 := hG e List.mem_cons_self
      rw [tBq_eq _ _ _ hb] at h1
      cases h
      exact h1
    | false =>
      rw [hb] at h
      exact ih (fun e he => hG e (List.mem_cons_of_mem _ he)) h
def aMt (o : Option (Int × Int)) (d : Int × Int) : Int × Int := match o with
  | some e => (max e.1 d.1, min e.2 d.2)
  | none => d
theorem aMt_ok {ι : aIn} {t : tM} {G : aG} {d : Int × Int} (hG : aOk ι G) (hd : aW (aZ ι t) d) : aW (aZ ι t) (aMt (aOr t G) d) := by
  unfold aMt
  cases h : aOr t G with
  | none => exact hd
  | some e =>
    have h1 := aOr_ok hG h
    unfold aW at h1 hd ⊢
    dsimp only
    omega
def aRg (p : Int × Int) : Int × Int := if -2147483648 ≤ p.1 ∧ p.2 ≤ 2147483647 then p else aFull
theorem aRg_ok {z : Int} {p : Int × Int} {x : Int32} (hx : x.toInt = z.bmod (2 ^ 32)) (hz : aW z p) : aW x.toInt (aRg p) := by
  unfold aRg
  split
  · unfold aW at hz
    have e : z.bmod (2 ^ 32) = z := Int.bmod_eq_of_le (by omega) (by omega)
    rw [hx, e]
    exact hz
  · exact aFull_ok x
def aMl (p q : Int × Int) : Int × Int := if 0 ≤ p.1 ∧ 0 ≤ q.1 then aRg (p.1 * q.1, p.2 * q.2) else aFull
theorem aMl_ok {x y z : Int32} {p q : Int × Int} (hz : z.toInt = (x.toInt * y.toInt).bmod (2 ^ 32)) (hx : aW x.toInt p) (hy : aW y.toInt q) : aW z.toInt (aMl p q) := by
  unfold aMl
  split
  · rename_i h
    refine aRg_ok hz ?_
    unfold aW at hx hy ⊢
    exact ⟨Int.mul_le_mul hx.1 hy.1 h.2 (by omega), Int.mul_le_mul hx.2 hy.2 (by omega) (by omega)⟩
  · exact aFull_ok z
def aDv (p : Int × Int) (c : Int) : Int × Int := if 0 < c then (p.1.tdiv c, p.2.tdiv c) else aFull
theorem aDv_ok {x y : Int32} {p : Int × Int} (hx : aW x.toInt p) : aW (x / y).toInt (aDv p y.toInt) := by
  unfold aDv
  split
  · rename_i h
    have e : (x / y).toInt = x.toInt.tdiv y.toInt := Int32.toInt_div_of_ne_right _ _ (fun z => by rw [z] at h; exact absurd h (by decide))
    rw [e]
    exact ⟨Int.tdiv_le_tdiv h hx.1, Int.tdiv_le_tdiv h hx.2⟩
  · exact aFull_ok _
theorem a_rem {x y : Int32} (h : 0 < y.toInt) : (x - x / y * y).toInt = x.toInt.tmod y.toInt := by
  have e : (x / y).toInt = x.toInt.tdiv y.toInt := Int32.toInt_div_of_ne_right _ _ (fun z => by rw [z] at h; exact absurd h (by decide))
  have h1 := Int.tdiv_mul_add_tmod x.toInt y.toInt
  have h3 := x.le_toInt
  have h4 := x.toInt_lt
  have h5 := y.toInt_lt
  have h6 : -(y.toInt) < x.toInt.tmod y.toInt ∧ x.toInt.tmod y.toInt < y.toInt := ⟨by
    by_cases hx : 0 ≤ x.toInt
    · have := Int.tmod_nonneg y.toInt hx; omega
    · have h7 := Int.tmod_lt_of_pos (-x.toInt) h
      rw [Int.neg_tmod] at h7
      omega, Int.tmod_lt_of_pos _ h⟩
  have h8 : (0 ≤ x.toInt → 0 ≤ x.toInt.tmod y.toInt) ∧ (x.toInt ≤ 0 → x.toInt.tmod y.toInt ≤ 0) := ⟨fun hx => Int.tmod_nonneg _ hx, fun hx => by
    have h7 := Int.tmod_nonneg y.toInt (a := -x.toInt) (by omega)
    rw [Int.neg_tmod] at h7
    omega⟩
  have h9 : (0 ≤ x.toInt → 0 ≤ x.toInt.tdiv y.toInt * y.toInt) ∧ (x.toInt ≤ 0 → x.toInt.tdiv y.toInt * y.toInt ≤ 0) := ⟨fun hx => Int.mul_nonneg (Int.tdiv_nonneg hx (by omega)) (by omega), fun hx => by
    have h7 : 0 ≤ (-x.toInt).tdiv y.toInt * y.toInt := Int.mul_nonneg (Int.tdiv_nonneg (by omega) (by omega)) (by omega)
    rw [Int.neg_tdiv, Int.neg_mul] at h7
    omega⟩
  rw [Int32.toInt_sub, Int32.toInt_mul, e]
  have e2 : (x.toInt.tdiv y.toInt * y.toInt).bmod (2 ^ 32) = x.toInt.tdiv y.toInt * y.toInt := by
    generalize x.toInt.tdiv y.toInt * y.toInt = q at *
    exact Int.bmod_eq_of_le (by omega) (by omega)
  rw [e2]
  generalize x.toInt.tdiv y.toInt * y.toInt = q at *
  rw [Int.bmod_eq_of_le (by omega) (by omega)]
  omega
def aRm (p : Int × Int) (c : Int) : Int × Int := if 0 < c then (if 0 ≤ p.1 then (0, c - 1) else (-(c - 1), c - 1)) else aFull
theorem aRm_ok {x y : Int32} {p : Int × Int} (hx : aW x.toInt p) : aW (x - x / y * y).toInt (aRm p y.toInt) := by
  unfold aRm
  split
  · rename_i h
    rw [a_rem h]
    have h1 := Int.tmod_lt_of_pos x.toInt h
    have h7 := Int.tmod_lt_of_pos (-x.toInt) h
    rw [Int.neg_tmod] at h7
    unfold aW at hx
    split
    · have h2 := Int.tmod_nonneg y.toInt (a := x.toInt) (by omega)
      unfold aW
      dsimp only
      omega
    · unfold aW
      dsimp only
      omega
  · exact aFull_ok _
def aAn (c : Int) : Int × Int := if 0 ≤ c then (0, c) else aFull
theorem aAn_ok (x m : Int32) : aW (x &&& m).toInt (aAn m.toInt) := by
  unfold aAn
  split
  · rename_i hm
    obtain ⟨j, hj, rfl⟩ := nI_of (x := m) (by rw [Int32.lt_iff_toInt_lt]; show ¬ m.toInt < 0; omega)
    have hb : ((x &&& nI j).toBitVec.toNat) ≤ j := by
      show (x.toBitVec &&& (nI j).toBitVec).toNat ≤ j
      rw [BitVec.toNat_and, pk_tn (by omega)]
      exact Nat.and_le_right
    rw [nI_toInt hj]
    have hx : (x &&& nI j) = nI ((x &&& nI j).toBitVec.toNat) := by
      apply Int32.toBitVec_inj.mp
      apply BitVec.eq_of_toNat_eq
      rw [pk_tn (by omega)]
    rw [hx, nI_toInt (by omega)]
    unfold aW
    dsimp only
    omega
  · exact aFull_ok _
theorem aCm_ok (x y : Int64) : aW (lg_cmp x y).toInt (-1, 1) := by
  unfold lg_cmp
  split
  · exact ⟨by decide, by decide⟩
  · split
    · exact ⟨by decide, by decide⟩
    · exact ⟨by decide, by decide⟩
def aIv : Nat → aG → tM → Int × Int
  | 0, _, _ => aFull
  | n + 1, G, t => match t with
    | .int x => (x.toInt, x.toInt)
    | .arg i => aMt (aOr (.arg i) G) aFull
    | .add a b => aMt (aOr (.add a b) G) (aRg ((aIv n G a).1 + (aIv n G b).1, (aIv n G a).2 + (aIv n G b).2))
    | .sub a b => aMt (aOr (.sub a b) G) (aRg ((aIv n G a).1 - (aIv n G b).2, (aIv n G a).2 - (aIv n G b).1))
    | .mul a b => aMt (aOr (.mul a b) G) (aMl (aIv n G a) (aIv n G b))
    | .div a (.int c) => aMt (aOr (.div a (.int c)) G) (aDv (aIv n G a) c.toInt)
    | .rem a (.int c) => aMt (aOr (.rem a (.int c)) G) (aRm (aIv n G a) c.toInt)
    | .op2 .lcmp a b => aMt (aOr (.op2 .lcmp a b) G) (-1, 1)
    | .op2 .iand a (.int m) => aMt (aOr (.op2 .iand a (.int m)) G) (aAn m.toInt)
    | t => aMt (aOr t G) aFull
theorem aIv_ok {ι : aIn} {G : aG} (h : aOk ι G) : ∀ (n : Nat) (t : tM), aW (aZ ι t) (aIv n G t) := by
  intro n
  induction n with
  | zero => intro t; exact aFull_ok _
  | succ n ih =>
    intro t
    unfold aIv
    split
    · exact ⟨Int.le_refl _, Int.le_refl _⟩
    · exact aMt_ok h (aFull_ok _)
    · rename_i a b
      refine aMt_ok h (aRg_ok (Int32.toInt_add _ _) ?_)
      have h1 := ih a
      have h2 := ih b
      unfold aW at h1 h2 ⊢
      dsimp only
      unfold aZ at h1 h2
      omega
    · rename_i a b
      refine aMt_ok h (aRg_ok (Int32.toInt_sub _ _) ?_)
      have h1 := ih a
      have h2 := ih b
      unfold aW at h1 h2 ⊢
      dsimp only
      unfold aZ at h1 h2
      omega
    · rename_i a b
      exact aMt_ok h (aMl_ok (Int32.toInt_mul _ _) (ih a) (ih b))
    · rename_i a c
      exact aMt_ok h (aDv_ok (y := c) (ih a))
    · rename_i a c
      exact aMt_ok h (aRm_ok (y := c) (ih a))
    · exact aMt_ok h (aCm_ok _ _)
    · exact aMt_ok h (aAn_ok _ _)
    · exact aMt_ok h (aFull_ok _)
def aNm (G : aG) (t : tM) : tM := match t with
  | .int x => .int x
  | .long x => .long x
  | .index k => .index k
  | .null => .null
  | t => if kT t = 0 then (if (aIv 6 G t).1 = (aIv 6 G t).2 then aCi (aIv 6 G t).1 else t) else t
theorem aNm_ok {ι : aIn} {G : aG} (h : aOk ι G) (t : tM) : eT ι (aNm G t) = eT ι t := by
  unfold aNm
  split
  any_goals rfl
  split
  · rename_i hk
    split
    · rename_i he
      have h1 := aIv_ok h 6 t
      unfold aW aZ at h1
      rw [kT_0 hk, aCi_ok]
      rw [show (aIv 6 G t).1 = (vI (eT ι t)).toInt by omega, Int32.ofInt_toInt]
    · rfl
  · rfl
theorem aNm_k (G : aG) (t : tM) : kT (aNm G t) = kT t := by
  unfold aNm
  split
  any_goals rfl
  split
  · rename_i hk
    split
    · rw [hk]; exact aCi_k _
    · rfl
  · rfl
def aLit (v : Value) (t : tM) : tM := match v with
  | .int w => aCi w.toInt
  | .long w => aCl w
  | _ => t
/-- constants put together -/
def aFo (t : tM) : tM := match t with
  | .add (.int x) (.int y) => aCi (x.toInt + y.toInt)
  | .sub (.int x) (.int y) => aCi (x.toInt - y.toInt)
  | .mul (.int x) (.int y) => aCi (x.toInt * y.toInt)
  | .div (.int x) (.int y) => aCi (x / y).toInt
  | .rem (.int x) (.int y) => aCi (x - x / y * y).toInt
  | .op2 o (.int x) (.int y) => aLit (o2 o (.int x) (.int y)) t
  | .op2 o (.long x) (.long y) => aLit (o2 o (.long x) (.long y)) t
  | .op2 o (.long x) (.int y) => aLit (o2 o (.long x) (.int y)) t
  | .op2 .land (.long x) y => if x.toInt = 0 then .long 0 else .op2 .land (.long x) y
  | .op2 .land y (.long x) => if x.toInt = 0 then .long 0 else .op2 .land y (.long x)
  | .op1 o (.int x) => aLit (o1 o (.int x)) t
  | .op1 o (.long x) => aLit (o1 o (.long x)) t
  | t => t
theorem aLit_ok {ι : aIn} {v : Value} {t : tM} (h : eT ι t = v) : eT ι (aLit v t) = eT ι t := by
  unfold aLit
  split
  · rw [aCi_ok, Int32.ofInt_toInt]; exact h.symm
  · rw [aCl_ok]; exact h.symm
  · rfl
theorem a_l0 {x : Int64} (h : x.toInt = 0) : x = 0 := Int64.toInt_inj.mp h
theorem aFo_ok (ι : aIn) (t : tM) : eT ι (aFo t) = eT ι t := by
  unfold aFo
  split
  · rw [aCi_ok, Int32.ofInt_add, Int32.ofInt_toInt, Int32.ofInt_toInt]; rfl
  · rw [aCi_ok, Int32.ofInt_sub, Int32.ofInt_toInt, Int32.ofInt_toInt]; rfl
  · rw [aCi_ok, Int32.ofInt_mul, Int32.ofInt_toInt, Int32.ofInt_toInt]; rfl
  · rw [aCi_ok, Int32.ofInt_toInt]; rfl
  · rw [aCi_ok, Int32.ofInt_toInt]; rfl
  · exact aLit_ok rfl
  · exact aLit_ok rfl
  · exact aLit_ok rfl
  · split
    · rename_i hx
      rw [a_l0 hx]
      show Value.long 0 = .long (0 &&& _)
      rw [Int64.zero_and]
    · rfl
  · split
    · rename_i hx
      rw [a_l0 hx]
      show Value.long 0 = .long (_ &&& 0)
      rw [Int64.and_zero]
    · rfl
  · exact aLit_ok rfl
  · exact aLit_ok rfl
  · rfl
/-- all the way down -/
def aDp : Nat → aG → tM → tM
  | 0, _, t => t
  | n + 1, G, t => match t with
    | .add a b => aNm G (aFo (.add (aDp n G a) (aDp n G b)))
    | .sub a b => aNm G (aFo (.sub (aDp n G a) (aDp n G b)))
    | .mul a b => aNm G (aFo (.mul (aDp n G a) (aDp n G b)))
    | .div a b => aNm G (aFo (.div (aDp n G a) (aDp n G b)))
    | .rem a b => aNm G (aFo (.rem (aDp n G a) (aDp n G b)))
    | .op2 o a b => aNm G (aFo (.op2 o (aDp n G a) (aDp n G b)))
    | .op1 o a => aNm G (aFo (.op1 o (aDp n G a)))
    | t => aNm G t
theorem aDp_ok {ι : aIn} {G : aG} (h : aOk ι G) : ∀ (n : Nat) (t : tM), eT ι (aDp n G t) = eT ι t := by
  intro n
  induction n with
  | zero => intro t; rfl
  | succ n ih =>
    intro t
    unfold aDp
    split
    all_goals rw [aNm_ok h]
    all_goals
      rw [aFo_ok]
      simp only [eT, ih]
theorem aDp_k {ι : aIn} {G : aG} (h : aOk ι G) (n : Nat) (t : tM) : vI (eT ι (aDp n G t)) = vI (eT ι t) := by rw [aDp_ok h]
end
section
/-! stack -/
def aB (ins : Instr) : Option (Nat × Nat × (tM → tM → tM)) := match ins with
  | .iadd => some (0, 0, .add)
  | .isub => some (0, 0, .sub)
  | .imul => some (0, 0, .mul)
  | .idiv => some (0, 0, .div)
  | .irem => some (0, 0, .rem)
  | .iand => some (0, 0, .op2 .iand)
  | .ior => some (0, 0, .op2 .ior)
  | .ixor => some (0, 0, .op2 .ixor)
  | .ishl => some (0, 0, .op2 .ishl)
  | .ishr => some (0, 0, .op2 .ishr)
  | .ladd => some (1, 1, .op2 .ladd)
  | .lsub => some (1, 1, .op2 .lsub)
  | .land => some (1, 1, .op2 .land)
  | .lor => some (1, 1, .op2 .lor)
  | .lxor => some (1, 1, .op2 .lxor)
  | .lcmp => some (1, 1, .op2 .lcmp)
  | .lshl => some (0, 1, .op2 .lshl)
  | .lshr => some (0, 1, .op2 .lshr)
  | .lushr => some (0, 1, .op2 .lushr)
  | _ => none
def aU (ins : Instr) : Option (Nat × (tM → tM)) := match ins with
  | .ineg => some (0, .op1 .ineg)
  | .lneg => some (1, .op1 .lneg)
  | .i2l => some (0, .op1 .i2l)
  | .l2i => some (1, .op1 .l2i)
  | .i2b => some (0, .op1 .i2b)
  | .i2s => some (0, .op1 .i2s)
  | .i2c => some (0, .op1 .i2c)
  | _ => none
def aK (ins : Instr) : Option tM := match ins with
  | .iconst n => some (.int (Int32.ofInt n))
  | .bipush n => some (.int (Int8.ofInt n).toInt32)
  | .sipush n => some (.int (Int16.ofInt n).toInt32)
  | .lconst n => some (.long (Int64.ofNat (n : Nat)))
  | .aconst_null => some .null
  | _ => none
def aDiv (ins : Instr) : Bool := match ins with
  | .idiv => true
  | .irem => true
  | _ => false
def a1 (t : tM) : Bool := !(Nat.beq (kT t) 1)
def aDx (ins : Instr) (st : List tM) : Option (List tM) := match ins with
  | .dup => (match st with
    | a :: r => if a1 a = true then some (a :: a :: r) else none
    | _ => none)
  | .dup_x1 => (match st with
    | a :: b :: r => if a1 a = true ∧ a1 b = true then some (a :: b :: a :: r) else none
    | _ => none)
  | .dup2 => (match st with
    | a :: b :: r => if a1 a = true ∧ a1 b = true then some (a :: b :: a :: b :: r) else none
    | _ => none)
  | .pop => (match st with
    | a :: r => if a1 a = true then some r else none
    | _ => none)
  | _ => none
def aPure (ins : Instr) (G : aG) (st : List tM) : Option (List tM) := match aK ins with
  | some t => some (t :: st)
  | none => (match aB ins with
    | some (ky, kx, b) => (match st with
      | y :: x :: r => if kT y = ky ∧ kT x = kx ∧ (aDiv ins = true → 0 < (aIv 6 G y).1 ∨ (aIv 6 G y).2 < 0) then some (aFo (b (aNm G x) (aNm G y)) :: r) else none
      | _ => none)
    | none => (match aU ins with
      | some (kx, u) => (match st with
        | x :: r => if kT x = kx then some (aFo (u (aNm G x)) :: r) else none
        | _ => none)
      | none => aDx ins st))
abbrev eS (ι : aIn) (st : List tM) : List Value := st.map (eT ι)
theorem a1_cat {ι : aIn} {t : tM} (h : a1 t = true) : (eT ι t).category = 1 := by
  rw [eT_cat, if_neg]
  intro e
  unfold a1 at h
  rw [e] at h
  cases h
theorem aDiv_ok {ι : aIn} {G : aG} (h : aOk ι G) {y : tM} (hy : 0 < (aIv 6 G y).1 ∨ (aIv 6 G y).2 < 0) : ¬ vI (eT ι y) = 0 := by
  intro e
  have h1 := aIv_ok h 6 y
  unfold aW aZ at h1
  rw [e] at h1
  have h2 : (0 : Int32).toInt = 0 := by decide
  rw [h2] at h1
  omega
theorem aK_ok (ι : aIn) {ins : Instr} {t : tM} (h : aK ins = some t) (r : List Value) : sPure ins r = some (eT ι t :: r) := by
  unfold aK at h
  split at h <;> cases h <;> rfl
theorem aDx_ok (ι : aIn) {ins : Instr} {st st1 : List tM} (h : aDx ins st = some st1) : sPure ins (eS ι st) = some (eS ι st1) := by
  unfold aDx at h
  split at h
  · split at h
    · split at h
      · rename_i ha
        cases h
        exact if_pos (a1_cat ha)
      · cases h
    · cases h
  · split at h
    · split at h
      · rename_i ha
        cases h
        exact if_pos ⟨a1_cat ha.1, a1_cat ha.2⟩
      · cases h
    · cases h
  · split at h
    · split at h
      · rename_i ha
        cases h
        exact if_pos ⟨a1_cat ha.1, a1_cat ha.2⟩
      · cases h
    · cases h
  · split at h
    · split at h
      · rename_i ha
        cases h
        exact if_pos (a1_cat ha)
      · cases h
    · cases h
  · cases h
theorem aB_nm {ins : Instr} {ky kx : Nat} {b : tM → tM → tM} (h : aB ins = some (ky, kx, b)) {ι : aIn} {G : aG} (hG : aOk ι G) (x y : tM) : eT ι (b (aNm G x) (aNm G y)) = eT ι (b x y) := by
  unfold aB at h
  split at h <;> cases h <;> simp only [eT, aNm_ok hG]
theorem aU_nm {ins : Instr} {kx : Nat} {u : tM → tM} (h : aU ins = some (kx, u)) {ι : aIn} {G : aG} (hG : aOk ι G) (x : tM) : eT ι (u (aNm G x)) = eT ι (u x) := by
  unfold aU at h
  split at h <;> cases h <;> simp only [eT, aNm_ok hG]
theorem aB_ok {ι : aIn} {ins : Instr} {ky kx : Nat} {b : tM → tM → tM} (h : aB ins = some (ky, kx, b)) {x y : tM} (hy : kT y = ky) (hx : kT x = kx) (hd : aDiv ins = true → ¬ vI (eT ι y) = 0) (r : List Value) : sPure ins (eT ι y :: eT ι x :: r) = some (eT ι (b x y) :: r) := by
  unfold aB at h
  split at h
  case h_20 => cases h
  case h_4 =>
    cases h
    rw [kT_0 hx, kT_0 hy]
    show (if vI (eT ι y) = 0 then none else some (Value.int (vI (eT ι x) / vI (eT ι y)))).map (fun v => v :: r) = _
    rw [if_neg (hd rfl)]
    rfl
  case h_5 =>
    cases h
    rw [kT_0 hx, kT_0 hy]
    show (if vI (eT ι y) = 0 then none else some (Value.int (vI (eT ι x) - vI (eT ι x) / vI (eT ι y) * vI (eT ι y)))).map (fun v => v :: r) = _
    rw [if_neg (hd rfl)]
    rfl
  all_goals
    cases h
    first
    | (rw [kT_0 hx, kT_0 hy]; rfl)
    | (rw [kT_1 hx, kT_1 hy]; rfl)
    | (rw [kT_1 hx, kT_0 hy]; rfl)
theorem aU_ok {ι : aIn} {ins : Instr} {kx : Nat} {u : tM → tM} (h : aU ins = some (kx, u)) {x : tM} (hx : kT x = kx) (r : List Value) : sPure ins (eT ι x :: r) = some (eT ι (u x) :: r) := by
  unfold aU at h
  split at h <;> cases h
  all_goals first | (rw [kT_0 hx]; rfl) | (rw [kT_1 hx]; rfl)
theorem aPure_ok {ι : aIn} {ins : Instr} {G : aG} {st st1 : List tM} (h : aPure ins G st = some st1) (hG : aOk ι G) : sPure ins (eS ι st) = some (eS ι st1) := by
  unfold aPure at h
  split at h
  · rename_i t ht
    cases h
    exact aK_ok ι ht _
  · split at h
    · rename_i ky kx b hb
      split at h
      · rename_i y x r
        split at h
        · rename_i hc
          cases h
          show sPure ins (eT ι y :: eT ι x :: eS ι r) = some (eT ι (aFo (b (aNm G x) (aNm G y))) :: eS ι r)
          rw [aFo_ok, aB_nm hb hG]
          exact aB_ok hb hc.1 hc.2.1 (fun hd => aDiv_ok hG (hc.2.2 hd)) _
        · cases h
      · cases h
    · split at h
      · rename_i kx u hu
        split at h
        · rename_i x r
          split at h
          · rename_i hc
            cases h
            show sPure ins (eT ι x :: eS ι r) = some (eT ι (aFo (u (aNm G x))) :: eS ι r)
            rw [aFo_ok, aU_nm hu hG]
            exact aU_ok hu hc _
          · cases h
        · cases h
      · exact aDx_ok ι h
/-! locals -/
abbrev aLo : Type := List (Option tM)
abbrev eL (ι : aIn) (L : aLo) : sLo := L.map (fun o => o.map (eT ι))
def aNth {α : Type} : List α → Nat → Option α
  | [], _ => none
  | a :: r, n => match n with
    | 0 => some a
    | m + 1 => aNth r m
theorem aNth_eq {α : Type} : ∀ (l : List α) (n : Nat), aNth l n = l[n]? := by
  intro l
  induction l with
  | nil => intro n; rfl
  | cons a r ih =>
    intro n
    cases n with
    | zero => rfl
    | succ m => exact ih m
theorem eL_at (ι : aIn) (L : aLo) (i : Nat) : (eL ι L)[i]? = (aNth L i).map (fun o => o.map (eT ι)) := by
  rw [aNth_eq]
  exact List.getElem?_map
def aLd (ins : Instr) : Option (Nat × Nat) := match ins with
  | .iload i => some (i, 0)
  | .iload_n i => some (i, 0)
  | .lload i => some (i, 1)
  | .lload_n i => some (i, 1)
  | .aload i => some (i, 2)
  | .aload_n i => some (i, 2)
  | _ => none
def aSto (ins : Instr) : Option (Nat × Nat) := match ins with
  | .istore i => some (i, 0)
  | .istore_n i => some (i, 0)
  | .lstore i => some (i, 1)
  | .lstore_n i => some (i, 1)
  | .astore i => some (i, 2)
  | .astore_n i => some (i, 2)
  | _ => none
def aIc (ins : Instr) : Option (Nat × Int) := match ins with
  | .iinc i n => some (i, n)
  | _ => none
def aIsL (o : Option (Option tM)) : Bool := match o with
  | some (some t) => Nat.beq (kT t) 1
  | _ => false
def aKill (L : aLo) (i : Nat) : aLo := match i with
  | 0 => L
  | j + 1 => bif aIsL (aNth L j) then L.set j none else L
def aPut (L : aLo) (i : Nat) (t : tM) : aLo := (aKill L i).set i (some t)
def aPutL (L : aLo) (i : Nat) (t : tM) : aLo := (aPut L i t).set (i + 1) none
theorem aIsL_ok (ι : aIn) (L : aLo) (j : Nat) : sIsL (eL ι L)[j]? = aIsL (aNth L j) := by
  rw [eL_at]
  cases h : aNth L j with
  | none => rfl
  | some o =>
    cases o with
    | none => rfl
    | some t =>
      show sIsL (some (some (eT ι t))) = Nat.beq (kT t) 1
      by_cases hk : kT t = 1
      · rw [kT_1 hk, hk]; rfl
      · cases he : eT ι t with
        | long x => exact absurd (kT_eT he) hk
        | _ =>
          symm
          show Nat.beq (kT t) 1 = false
          cases hb : Nat.beq (kT t) 1 with
          | false => rfl
          | true => exact absurd (Nat.eq_of_beq_eq_true hb) hk
theorem aKill_ok (ι : aIn) (L : aLo) (i : Nat) : eL ι (aKill L i) = sKill (eL ι L) i := by
  cases i with
  | zero => rfl
  | succ j =>
    show eL ι (bif aIsL (aNth L j) then L.set j none else L) = if sIsL (eL ι L)[j]? = true then (eL ι L).set j none else eL ι L
    rw [aIsL_ok]
    cases aIsL (aNth L j) with
    | false => rfl
    | true => exact List.map_set
theorem aPut_ok (ι : aIn) (L : aLo) (i : Nat) (t : tM) : eL ι (aPut L i t) = sPut (eL ι L) i (eT ι t) := by
  unfold aPut sPut
  rw [← aKill_ok]
  exact List.map_set
theorem aPutL_ok (ι : aIn) (L : aLo) (i : Nat) (t : tM) : eL ι (aPutL L i t) = sPutL (eL ι L) i (eT ι t) := by
  unfold aPutL sPutL
  rw [← aPut_ok]
  exact List.map_set
def aLdS (p : Nat × Nat) (L : aLo) (st : List tM) : Option (aLo × List tM) := match aNth L p.1 with
  | some (some t) => if kT t = p.2 then some (L, t :: st) else none
  | _ => none
def aStS (p : Nat × Nat) (L : aLo) (st : List tM) : Option (aLo × List tM) := match st with
  | t :: r => if kT t = p.2 then (if p.2 = 1 then (if p.1 + 1 < L.length then some (aPutL L p.1 t, r) else none) else (if p.1 < L.length then some (aPut L p.1 t, r) else none)) else none
  | _ => none
def aIcS (p : Nat × Int) (G : aG) (L : aLo) (st : List tM) : Option (aLo × List tM) := match aNth L p.1 with
  | some (some t) => if kT t = 0 then (match aFo (.add (aNm G t) (.int (Int32.ofInt p.2))) with
    | .int x => some (aPut L p.1 (.int x), st)
    | t1 => some (aPut L p.1 t1, st)) else none
  | _ => none
def aLoc (ins : Instr) (G : aG) (L : aLo) (st : List tM) : Option (aLo × List tM) := match aLd ins with
  | some p => aLdS p L st
  | none => (match aSto ins with
    | some p => aStS p L st
    | none => (match aIc ins with
      | some p => aIcS p G L st
      | none => none))
theorem aLd_ok {ι : aIn} {ins : Instr} {p : Nat × Nat} (hp : aLd ins = some p) {L L1 : aLo} {st st1 : List tM} (h : aLdS p L st = some (L1, st1)) : sLoc ins (eL ι L) (eS ι st) = some (eL ι L1, eS ι st1) := by
  unfold aLdS at h
  split at h
  · rename_i t ht
    split at h
    · rename_i hk
      cases h
      have hl : (eL ι L)[p.1]? = some (some (eT ι t)) := by rw [eL_at, ht]; rfl
      unfold aLd at hp
      split at hp <;> cases hp
      · show sLdI _ _ _ = _
        unfold sLdI
        dsimp only at hl hk
        show _ = some (_, eT ι t :: _)
        rw [hl, kT_0 hk]
        (try rfl)
      · show sLdI _ _ _ = _
        unfold sLdI
        dsimp only at hl hk
        show _ = some (_, eT ι t :: _)
        rw [hl, kT_0 hk]
        (try rfl)
      · show sLdL _ _ _ = _
        unfold sLdL
        dsimp only at hl hk
        show _ = some (_, eT ι t :: _)
        rw [hl, kT_1 hk]
        (try rfl)
      · show sLdL _ _ _ = _
        unfold sLdL
        dsimp only at hl hk
        show _ = some (_, eT ι t :: _)
        rw [hl, kT_1 hk]
        (try rfl)
      · show sLdA _ _ _ = _
        unfold sLdA
        dsimp only at hl hk
        rw [hl]
        rcases kT_2 (ι := ι) hk with ⟨k, rfl⟩ | rfl <;> rfl
      · show sLdA _ _ _ = _
        unfold sLdA
        dsimp only at hl hk
        rw [hl]
        rcases kT_2 (ι := ι) hk with ⟨k, rfl⟩ | rfl <;> rfl
    · cases h
  · cases h
theorem aSt_i {ι : aIn} {L L1 : aLo} {st st1 : List tM} {i : Nat} (h : aStS (i, 0) L st = some (L1, st1)) : sStI (eL ι L) i (eS ι st) = some (eL ι L1, eS ι st1) := by
  unfold aStS at h
  split at h
  · rename_i t r
    dsimp only at h
    split at h
    · rename_i hk
      rw [if_neg (by decide)] at h
      split at h
      · rename_i hl
        cases h
        show sStI _ _ (eT ι t :: eS ι st1) = _
        rw [aPut_ok, kT_0 hk]
        exact if_pos (by rw [List.length_map]; exact hl)
      · cases h
    · cases h
  · cases h
theorem aSt_l {ι : aIn} {L L1 : aLo} {st st1 : List tM} {i : Nat} (h : aStS (i, 1) L st = some (L1, st1)) : sStL (eL ι L) i (eS ι st) = some (eL ι L1, eS ι st1) := by
  unfold aStS at h
  split at h
  · rename_i t r
    dsimp only at h
    split at h
    · rename_i hk
      rw [if_pos rfl] at h
      split at h
      · rename_i hl
        cases h
        show sStL _ _ (eT ι t :: eS ι st1) = _
        rw [aPutL_ok, kT_1 hk]
        exact if_pos (by rw [List.length_map]; exact hl)
      · cases h
    · cases h
  · cases h
theorem aSt_a {ι : aIn} {L L1 : aLo} {st st1 : List tM} {i : Nat} (h : aStS (i, 2) L st = some (L1, st1)) : sStA (eL ι L) i (eS ι st) = some (eL ι L1, eS ι st1) := by
  unfold aStS at h
  split at h
  · rename_i t r
    dsimp only at h
    split at h
    · rename_i hk
      rw [if_neg (by decide)] at h
      split at h
      · rename_i hl
        cases h
        show sStA _ _ (eT ι t :: eS ι st1) = _
        rw [aPut_ok]
        rcases kT_2 (ι := ι) hk with ⟨k, rfl⟩ | rfl
        · exact if_pos (by rw [List.length_map]; exact hl)
        · exact if_pos (by rw [List.length_map]; exact hl)
      · cases h
    · cases h
  · cases h
theorem aLoc_ok {ι : aIn} {ins : Instr} {G : aG} {L L1 : aLo} {st st1 : List tM} (h : aLoc ins G L st = some (L1, st1)) (hG : aOk ι G) : sLoc ins (eL ι L) (eS ι st) = some (eL ι L1, eS ι st1) := by
  unfold aLoc at h
  split at h
  · rename_i p hp
    exact aLd_ok hp h
  · split at h
    · rename_i p hp
      unfold aSto at hp
      split at hp <;> cases hp
      · exact aSt_i h
      · exact aSt_i h
      · exact aSt_l h
      · exact aSt_l h
      · exact aSt_a h
      · exact aSt_a h
    · split at h
      · rename_i p hp
        unfold aIc at hp
        split at hp
        · rename_i i n _ _
          cases hp
          unfold aIcS at h
          split at h
          · rename_i t ht
            split at h
            · rename_i hk
              have h2 : L1 = aPut L i (aFo (.add (aNm G t) (.int (Int32.ofInt n)))) ∧ st1 = st := by
                split at h
                · rename_i x hx
                  cases h
                  exact ⟨by rw [hx], rfl⟩
                · cases h
                  exact ⟨rfl, rfl⟩
              obtain ⟨rfl, rfl⟩ := h2
              show sInc _ _ _ _ = _
              unfold sInc
              dsimp only at ht
              rw [eL_at, ht]
              show (match some (some (eT ι t)) with
                | some (some (.int x)) => some (sPut (eL ι L) i (.int (x + Int32.ofInt n)), eS ι st1)
                | _ => none) = _
              rw [aPut_ok, aFo_ok]
              show _ = some (sPut (eL ι L) i (.int (vI (eT ι (aNm G t)) + Int32.ofInt n)), _)
              rw [aNm_ok hG, kT_0 hk]
              rfl
            · cases h
          · cases h
        · cases hp
      · cases h
end
section
/-! ===== cells of terms ===== -/
theorem aBq (a b : Nat) : Nat.beq a b = decide (a = b) := by
  by_cases h : a = b
  · subst h; rw [Nat.beq_refl]; simp
  · rw [decide_eq_false h]
    cases hb : Nat.beq a b with
    | false => rfl
    | true => exact absurd (Nat.eq_of_beq_eq_true hb) h
theorem aBt {a b : Nat} (h : Nat.beq a b = true) : a = b := Nat.eq_of_beq_eq_true h
theorem aBl {a b : Nat} (h : Nat.blt a b = true) : a < b := Nat.le_of_ble_eq_true h
theorem aBf {α : Type} {c : Bool} {a : Option α} {x : α} (h : (bif c then a else none) = some x) : c = true ∧ a = some x := by
  cases c with
  | true => exact ⟨rfl, h⟩
  | false => cases h
theorem aBa {a b : Bool} (h : (a && b) = true) : a = true ∧ b = true := by
  cases a with
  | true => exact ⟨rfl, h⟩
  | false => cases h
def aGt {α : Type} (d : α) (i : Nat) : List (Nat × α) → α
  | [] => d
  | e :: r => bif Nat.beq e.1 i then e.2 else aGt d i r
def aPt {α : Type} (i : Nat) (v : α) : List (Nat × α) → List (Nat × α)
  | [] => [(i, v)]
  | e :: r => bif Nat.beq e.1 i then (i, v) :: r else e :: aPt i v r
theorem aPt_ok {α : Type} (d : α) (i j : Nat) (v : α) : ∀ l : List (Nat × α), aGt d j (aPt i v l) = if j = i then v else aGt d j l := by
  intro l
  induction l with
  | nil =>
    show (bif Nat.beq i j then v else d) = _
    rw [aBq]
    by_cases h : j = i
    · rw [if_pos h, decide_eq_true h.symm]; rfl
    · rw [if_neg h, decide_eq_false (fun e => h e.symm)]; rfl
  | cons e r ih =>
    show aGt d j (bif Nat.beq e.1 i then (i, v) :: r else e :: aPt i v r) = if j = i then v else (bif Nat.beq e.1 j then e.2 else aGt d j r)
    rw [aBq e.1 i]
    by_cases h1 : e.1 = i
    · rw [decide_eq_true h1]
      show (bif Nat.beq i j then v else aGt d j r) = _
      rw [aBq, aBq]
      by_cases h : j = i
      · rw [if_pos h, decide_eq_true h.symm]; rfl
      · rw [if_neg h, decide_eq_false (fun e => h e.symm), decide_eq_false (fun e' => h (by rw [← e', h1]))]; rfl
    · rw [decide_eq_false h1]
      show (bif Nat.beq e.1 j then e.2 else aGt d j (aPt i v r)) = _
      rw [ih, aBq]
      by_cases h : j = i
      · rw [if_pos h, if_pos h, decide_eq_false (fun e' => h1 (by rw [e', h]))]; rfl
      · rw [if_neg h, if_neg h]
theorem map_set_range {β : Type} (n j : Nat) (f g : Nat → β) (v : β) (hg : ∀ i, g i = if i = j then v else f i) : (List.range n).map g = ((List.range n).map f).set j v := by
  apply List.ext_getElem?
  intro i
  rw [List.getElem?_set]
  by_cases hi : i < n
  · rw [List.getElem?_map, List.getElem?_range hi, List.getElem?_map, List.getElem?_range hi, List.length_map, List.length_range]
    show some (g i) = if j = i then (if j < n then some v else none) else some (f i)
    rw [hg]
    by_cases h : i = j
    · rw [if_pos h, if_pos h.symm, if_pos (by omega)]
    · rw [if_neg h, if_neg (fun e => h e.symm)]
  · have e1 : ∀ q : Nat → β, ((List.range n).map q)[i]? = none := fun q => by rw [List.getElem?_eq_none]; rw [List.length_map, List.length_range]; omega
    rw [e1, e1, List.length_map, List.length_range]
    by_cases h : j = i
    · rw [if_pos h, if_neg (by omega)]
    · rw [if_neg h]
def aTd (ty : FieldType) : tM := match ty with
  | .int => .int 0
  | .long => .long 0
  | .boolean => .int 0
  | _ => .null
def aTo (ty : FieldType) : Bool := match ty with
  | .int => true
  | .long => true
  | .boolean => true
  | .object _ => true
  | .array _ => true
  | _ => false
theorem aTd_ok (ι : aIn) {ty : FieldType} (h : aTo ty = true) : eT ι (aTd ty) = defaultValue ty := by
  cases ty <;> first | rfl | cases h
def aAd (c : Nat) : tM := bif Nat.beq c 21 then .long 0 else (bif Nat.beq c 20 || Nat.beq c 22 then .int 0 else .null)
abbrev aC : Type := Nat × Nat × List (Nat × tM)
abbrev aHp : Type := Nat × List (Nat × List (Nat × aC))
/-- an object (under 20), an array (20 and its tag), or a cell of which nothing is known -/
def eC (ι : aIn) (c : aC) : va_E :=
  if c.1 < 20 then .inr (c.1, (List.range c.2.1).map (fun i => eT ι (aGt (aTd (sTy c.1 i)) i c.2.2)))
  else if c.1 = 20 ∨ c.1 = 22 then .inl (c.1 - 20, c.2.1, .inl (fun i => vI (eT ι (aGt (aAd c.1) i c.2.2))))
  else if c.1 = 21 then .inl (1, c.2.1, .inr (.inl (fun i => vL (eT ι (aGt (aAd c.1) i c.2.2)))))
  else if c.1 < 26 then .inl (c.1 - 20, c.2.1, .inr (.inr (.inr (.inr (fun i => vR (eT ι (aGt (aAd c.1) i c.2.2)))))))
  else ι.2.2 c.2.1
theorem eC_o (ι : aIn) {c : aC} (h : c.1 < 20) : eC ι c = .inr (c.1, (List.range c.2.1).map (fun i => eT ι (aGt (aTd (sTy c.1 i)) i c.2.2))) := if_pos h
theorem eC_i (ι : aIn) {c : aC} (h : c.1 = 20 ∨ c.1 = 22) : eC ι c = .inl (c.1 - 20, c.2.1, .inl (fun i => vI (eT ι (aGt (aAd c.1) i c.2.2)))) := by
  unfold eC
  rw [if_neg (by omega), if_pos h]
theorem eC_l (ι : aIn) {c : aC} (h : c.1 = 21) : eC ι c = .inl (1, c.2.1, .inr (.inl (fun i => vL (eT ι (aGt (aAd c.1) i c.2.2))))) := by
  unfold eC
  rw [if_neg (by omega), if_neg (by omega), if_pos h]
theorem eC_r (ι : aIn) {c : aC} (h : 23 ≤ c.1 ∧ c.1 ≤ 25) : eC ι c = .inl (c.1 - 20, c.2.1, .inr (.inr (.inr (.inr (fun i => vR (eT ι (aGt (aAd c.1) i c.2.2))))))) := by
  unfold eC
  rw [if_neg (by omega), if_neg (by omega), if_neg (by omega), if_pos (by omega)]
def aNo : aC := (30, 0, [])
def aCe (h : aHp) (a : Nat) : aC := aGt aNo a (aGt [] (a / 16) h.2)
def aTr (h : aHp) (a : Nat) (c : aC) : List (Nat × List (Nat × aC)) := aPt (a / 16) (aPt a c (aGt [] (a / 16) h.2)) h.2
def aSe (h : aHp) (a : Nat) (c : aC) : aHp := (h.1, aTr h a c)
def aApp (h : aHp) (c : aC) : aHp := aF h.1 (fun m => aF (m + 1) (fun m1 => (m1, aTr h m c)))
theorem aTr_ok (h : aHp) (a b : Nat) (c : aC) (n : Nat) : aCe (n, aTr h a c) b = if b = a then c else aCe h b := by
  unfold aCe aTr
  dsimp only
  rw [aPt_ok]
  by_cases h1 : b / 16 = a / 16
  · rw [if_pos h1, aPt_ok, h1]
  · rw [if_neg h1, if_neg (fun e => h1 (by rw [e]))]
theorem aApp_eq (h : aHp) (c : aC) : aApp h c = (h.1 + 1, aTr h h.1 c) := by unfold aApp; rw [aF_eq, aF_eq]
abbrev eH (ι : aIn) (h : aHp) : sHp := (List.range h.1).map (fun a => eC ι (aCe h a))
theorem eH_len (ι : aIn) (h : aHp) : (eH ι h).length = h.1 := by rw [List.length_map, List.length_range]
theorem eH_at (ι : aIn) {h : aHp} {a : Nat} (ha : a < h.1) : (eH ι h)[a]? = some (eC ι (aCe h a)) := by
  rw [List.getElem?_map, List.getElem?_range ha]; rfl
theorem eH_set (ι : aIn) (h : aHp) (a : Nat) (c : aC) : eH ι (aSe h a c) = (eH ι h).set a (eC ι c) := by
  refine map_set_range h.1 a _ _ _ (fun i => ?_)
  unfold aSe
  rw [aTr_ok]
  by_cases e : i = a
  · rw [if_pos e, if_pos e]
  · rw [if_neg e, if_neg e]
theorem eH_app (ι : aIn) (h : aHp) (c : aC) : eH ι (aApp h c) = eH ι h ++ [eC ι c] := by
  rw [aApp_eq]
  unfold eH
  dsimp only
  rw [List.range_succ, List.map_append]
  congr 1
  · refine List.map_congr_left (fun i hi => ?_)
    rw [aTr_ok, if_neg]
    have := List.mem_range.mp hi
    omega
  · simp only [List.map_cons, List.map_nil]
    rw [aTr_ok, if_pos rfl]
/-! fields -/
def aGetF (k : Nat) (st : List tM) (h : aHp) : Option (List tM × aHp) := match st with
  | t :: r => (match t with
    | .index a => (match aCe h a with
      | (c, n, l) => bif Nat.blt a h.1 && (Nat.blt c 20 && (Nat.beq (sGrp c) (k / 64) && Nat.blt (k % 64) n)) then some (aGt (aTd (sTy c (k % 64))) (k % 64) l :: r, h) else none)
    | _ => none)
  | _ => none
theorem aGetF_ok (ι : aIn) {k : Nat} {st st1 : List tM} {h h1 : aHp} (g : aGetF k st h = some (st1, h1)) : sGetF k (eS ι st) (eH ι h) = some (eS ι st1, eH ι h1) := by
  unfold aGetF at g
  split at g
  · rename_i t r
    split at g
    · rename_i a
      split at g
      rename_i c n l hc
      obtain ⟨b, g⟩ := aBf g
      cases g
      obtain ⟨b1, b⟩ := aBa b
      obtain ⟨b2, b⟩ := aBa b
      obtain ⟨b3, b4⟩ := aBa b
      show sGetF k (.ref a :: eS ι r) (eH ι h) = _
      unfold sGetF
      dsimp only
      rw [eH_at ι (aBl b1), hc, eC_o ι (aBl b2)]
      dsimp only
      rw [if_pos (aBt b3), List.getElem?_map, List.getElem?_range (aBl b4)]
      rfl
    · cases g
  · cases g
def aBo (G : aG) (v : tM) : Bool := Nat.beq (kT v) 0 && (match aIv 6 G v with
  | (lo, hi) => decide (0 ≤ lo) && decide (hi ≤ 1))
theorem aBo_ok {ι : aIn} {G : aG} {v : tM} (h : aBo G v = true) (hG : aOk ι G) : ∃ x : Int32, eT ι v = .int x ∧ (x = 0 ∨ x = 1) := by
  obtain ⟨h1, h2⟩ := aBa h
  have h0 := aIv_ok hG 6 v
  split at h2
  rename_i lo hi he
  rw [he] at h0
  obtain ⟨h2, h3⟩ := aBa h2
  have h2 := of_decide_eq_true h2
  have h3 := of_decide_eq_true h3
  refine ⟨vI (eT ι v), kT_0 (aBt h1), ?_⟩
  unfold aW aZ at h0
  dsimp only at h0
  have h4 : (vI (eT ι v)).toInt = 0 ∨ (vI (eT ι v)).toInt = 1 := by omega
  rcases h4 with h4 | h4
  · exact Or.inl (Int32.toInt_inj.mp h4)
  · exact Or.inr (Int32.toInt_inj.mp h4)
def aFit (G : aG) (ty : FieldType) (v : tM) : Bool := match ty with
  | .int => Nat.beq (kT v) 0
  | .long => Nat.beq (kT v) 1
  | .boolean => aBo G v
  | .object _ => Nat.beq (kT v) 2
  | .array _ => Nat.beq (kT v) 2
  | _ => false
theorem aFit_ok {ι : aIn} {G : aG} {ty : FieldType} {v : tM} (h : aFit G ty v = true) (hG : aOk ι G) : sFit ty (eT ι v) = true := by
  unfold aFit at h
  split at h
  · rw [kT_0 (aBt h)]; rfl
  · rw [kT_1 (aBt h)]; rfl
  · obtain ⟨x, hx, h2⟩ := aBo_ok h hG
    rw [hx]
    exact decide_eq_true h2
  · rcases kT_2 (ι := ι) (aBt h) with ⟨k, rfl⟩ | rfl <;> rfl
  · rcases kT_2 (ι := ι) (aBt h) with ⟨k, rfl⟩ | rfl <;> rfl
  · cases h
def aPutF (k : Nat) (G : aG) (st : List tM) (h : aHp) : Option (List tM × aHp) := match st with
  | v :: t :: r => (match t with
    | .index a => (match aCe h a with
      | (c, n, l) => bif Nat.blt a h.1 && (Nat.blt c 20 && (Nat.beq (sGrp c) (k / 64) && (Nat.blt (k % 64) n && aFit G (sTy c (k % 64)) v))) then some (r, aSe h a (c, n, aPt (k % 64) v l)) else none)
    | _ => none)
  | _ => none
theorem aPutF_ok {ι : aIn} {k : Nat} {G : aG} {st st1 : List tM} {h h1 : aHp} (g : aPutF k G st h = some (st1, h1)) (hG : aOk ι G) : sPutF k (eS ι st) (eH ι h) = some (eS ι st1, eH ι h1) := by
  unfold aPutF at g
  split at g
  · rename_i v t r
    split at g
    · rename_i a
      split at g
      rename_i c n l hc
      obtain ⟨b, g⟩ := aBf g
      cases g
      obtain ⟨b1, b⟩ := aBa b
      obtain ⟨b2, b⟩ := aBa b
      obtain ⟨b3, b⟩ := aBa b
      obtain ⟨b4, b5⟩ := aBa b
      show sPutF k (eT ι v :: .ref a :: eS ι st1) (eH ι h) = _
      unfold sPutF
      dsimp only
      rw [eH_at ι (aBl b1), hc, eC_o ι (aBl b2)]
      dsimp only
      rw [if_pos ⟨aBt b3, by rw [List.length_map, List.length_range]; exact aBl b4, aFit_ok b5 hG⟩, eH_set, eC_o ι (c := (c, n, aPt (k % 64) v l)) (aBl b2)]
      dsimp only
      rw [map_set_range n (k % 64) (fun i => eT ι (aGt (aTd (sTy c i)) i l)) (fun i => eT ι (aGt (aTd (sTy c i)) i (aPt (k % 64) v l))) (eT ι v) (fun i => by
        rw [aPt_ok]
        by_cases e : i = k % 64
        · rw [if_pos e, if_pos e]
        · rw [if_neg e, if_neg e])]
    · cases g
  · cases g
/-! arrays -/
def aNt (G : aG) (i : tM) : Option Nat := match aNm G i with
  | .int x => (match x.toInt with
    | .ofNat j => some j
    | _ => none)
  | _ => none
theorem aNt_ok {ι : aIn} {G : aG} {i : tM} {j : Nat} (h : aNt G i = some j) (hG : aOk ι G) : ∃ x : Int32, eT ι i = .int x ∧ x.toInt = (j : Int) ∧ ¬ x < 0 ∧ x.toNatClampNeg = j := by
  unfold aNt at h
  split at h
  · rename_i x hx
    split at h
    · rename_i j' hj
      cases h
      refine ⟨x, by rw [← aNm_ok hG, hx]; rfl, hj, ?_, ?_⟩
      · rw [Int32.lt_iff_toInt_lt, hj]
        show ¬ (_ < (0 : Int))
        exact Int.not_lt.mpr (Int.natCast_nonneg _)
      · show x.toInt.toNat = _
        rw [hj]
        rfl
    · cases h
  · cases h
def aTg (w c : Nat) : Bool := match w with
  | 0 => Nat.beq c 20
  | 1 => Nat.beq c 21
  | 2 => Nat.beq c 22
  | _ => Nat.ble 23 c && Nat.ble c 25
def aTk (w : Nat) : Nat := match w with
  | 0 => 0
  | 1 => 1
  | 2 => 0
  | _ => 2
def aLdW (w : Nat) (G : aG) (st : List tM) (h : aHp) : Option (List tM × aHp) := match st with
  | i :: t :: r => (match t with
    | .index a => (match aCe h a with
      | (c, n, l) => (match aNt G i with
        | some j => bif Nat.blt a h.1 && (aTg w c && (Nat.blt j n && Nat.beq (kT (aGt (aAd c) j l)) (aTk w))) then some (aGt (aAd c) j l :: r, h) else none
        | none => none))
    | _ => none)
  | _ => none
theorem aLdW_ok {ι : aIn} {w : Nat} {G : aG} {st st1 : List tM} {h h1 : aHp} (g : aLdW w G st h = some (st1, h1)) (hG : aOk ι G) :
    (w = 0 → sLdAI 0 (eS ι st) (eH ι h) = some (eS ι st1, eH ι h1)) ∧ (w = 1 → sLdAL (eS ι st) (eH ι h) = some (eS ι st1, eH ι h1)) ∧ (w = 2 → sLdAI 2 (eS ι st) (eH ι h) = some (eS ι st1, eH ι h1)) ∧ (w = 3 → sLdAA (eS ι st) (eH ι h) = some (eS ι st1, eH ι h1)) := by
  unfold aLdW at g
  split at g
  · rename_i i t r
    split at g
    · rename_i a
      split at g
      rename_i c n l hc
      split at g
      · rename_i j hj
        obtain ⟨b, g⟩ := aBf g
        cases g
        obtain ⟨b1, b⟩ := aBa b
        obtain ⟨b2, b⟩ := aBa b
        obtain ⟨b3, b4⟩ := aBa b
        obtain ⟨x, x1, -, x2, x3⟩ := aNt_ok hj hG
        have hjn := aBl b3
        have hx : ¬ (x < 0 ∨ n ≤ x.toNatClampNeg) := by rw [x3]; exact fun e => e.elim x2 (fun e => by omega)
        have hat := eH_at ι (aBl b1)
        rw [hc] at hat
        have hk := aBt b4
        refine ⟨fun e => ?_, fun e => ?_, fun e => ?_, fun e => ?_⟩
        · subst e
          have hc0 : c = 20 := aBt b2
          rw [eC_i ι (c := (c, n, l)) (Or.inl hc0)] at hat
          show sLdAI 0 (eT ι i :: .ref a :: eS ι r) (eH ι h) = some (eT ι (aGt (aAd c) j l) :: eS ι r, eH ι h)
          unfold sLdAI
          rw [x1]
          dsimp only
          rw [hat]
          dsimp only
          rw [if_pos ⟨by rw [hc0], hx⟩, x3, ← kT_0 hk]
        · subst e
          have hc0 : c = 21 := aBt b2
          rw [eC_l ι (c := (c, n, l)) hc0] at hat
          show sLdAL (eT ι i :: .ref a :: eS ι r) (eH ι h) = some (eT ι (aGt (aAd c) j l) :: eS ι r, eH ι h)
          unfold sLdAL
          rw [x1]
          dsimp only
          rw [hat]
          dsimp only
          rw [if_pos ⟨rfl, hx⟩, x3, ← kT_1 hk]
        · subst e
          have hc0 : c = 22 := aBt b2
          rw [eC_i ι (c := (c, n, l)) (Or.inr hc0)] at hat
          show sLdAI 2 (eT ι i :: .ref a :: eS ι r) (eH ι h) = some (eT ι (aGt (aAd c) j l) :: eS ι r, eH ι h)
          unfold sLdAI
          rw [x1]
          dsimp only
          rw [hat]
          dsimp only
          rw [if_pos ⟨by rw [hc0], hx⟩, x3, ← kT_0 hk]
        · subst e
          have hc0 : 23 ≤ c ∧ c ≤ 25 := ⟨Nat.le_of_ble_eq_true (aBa b2).1, Nat.le_of_ble_eq_true (aBa b2).2⟩
          rw [eC_r ι (c := (c, n, l)) hc0] at hat
          show sLdAA (eT ι i :: .ref a :: eS ι r) (eH ι h) = some (eT ι (aGt (aAd c) j l) :: eS ι r, eH ι h)
          unfold sLdAA
          rw [x1]
          dsimp only
          rw [hat]
          dsimp only
          rw [if_pos ⟨(show c - 20 = 3 ∨ c - 20 = 4 ∨ c - 20 = 5 by omega), hx⟩, x3]
          rcases kT_2 (ι := ι) hk with ⟨q, e⟩ | e <;> rw [e] <;> rfl
      · cases g
    · cases g
  · cases g
def aOb (t : Nat) (h : aHp) (q : Nat) : Bool := match aCe h q with
  | (c, _, _) => Nat.blt q h.1 && (Nat.blt c 20 && ((t == 3 && c == 7) || (t == 4 && (sGrp c == 2 && decide (c < 11)))))
theorem aOb_ok (ι : aIn) {t : Nat} {h : aHp} {q : Nat} (g : aOb t h q = true) : sIsObj t (eH ι h)[q]? = true := by
  unfold aOb at g
  split at g
  rename_i c n l hc
  obtain ⟨b1, g⟩ := aBa g
  obtain ⟨b2, g⟩ := aBa g
  rw [eH_at ι (aBl b1), hc, eC_o ι (c := (c, n, l)) (aBl b2)]
  exact g
def aStO (w c : Nat) (G : aG) (v : tM) (h : aHp) : Bool := match w with
  | 2 => aBo G v
  | 3 => (match v with
    | .index q => aOb (c - 20) h q
    | .null => Nat.ble c 24
    | _ => false)
  | _ => Nat.beq (kT v) (aTk w)
theorem aStO_3 {c : Nat} {G : aG} {v : tM} {h : aHp} (b : aStO 3 c G v h = true) : (∃ q, v = .index q ∧ aOb (c - 20) h q = true) ∨ (v = .null ∧ c ≤ 24) := by
  cases v with
  | index q => exact Or.inl ⟨q, rfl, b⟩
  | null => exact Or.inr ⟨rfl, Nat.le_of_ble_eq_true b⟩
  | _ => cases b
def aStW (w : Nat) (G : aG) (st : List tM) (h : aHp) : Option (List tM × aHp) := match st with
  | v :: i :: t :: r => (match t with
    | .index a => (match aCe h a with
      | (c, n, l) => (match aNt G i with
        | some j => bif Nat.blt a h.1 && (aTg w c && (Nat.blt j n && aStO w c G v h)) then some (r, aSe h a (c, n, aPt j v l)) else none
        | none => none))
    | _ => none)
  | _ => none
theorem eC_upI (ι : aIn) (c n : Nat) (hc : c = 20 ∨ c = 22) (l : List (Nat × tM)) (j : Nat) (v : tM) : eC ι (c, n, aPt j v l) = .inl (c - 20, n, .inl (upd (fun i => vI (eT ι (aGt (aAd c) i l))) j (vI (eT ι v)))) := by
  rw [eC_i ι (c := (c, n, aPt j v l)) hc]
  dsimp only
  congr 4
  funext i
  rw [aPt_ok]
  unfold upd
  by_cases e : i = j
  · rw [if_pos e, if_pos e]
  · rw [if_neg e, if_neg e]
theorem eC_upL (ι : aIn) (n : Nat) (l : List (Nat × tM)) (j : Nat) (v : tM) : eC ι (21, n, aPt j v l) = .inl (1, n, .inr (.inl (vp_updL (fun i => vL (eT ι (aGt (aAd 21) i l))) j (vL (eT ι v))))) := by
  rw [eC_l ι (c := (21, n, aPt j v l)) rfl]
  dsimp only
  congr 5
  funext i
  rw [aPt_ok]
  unfold vp_updL
  by_cases e : i = j
  · rw [if_pos e, if_pos e]
  · rw [if_neg e, if_neg e]
theorem eC_upR (ι : aIn) (c n : Nat) (hc : 23 ≤ c ∧ c ≤ 25) (l : List (Nat × tM)) (j : Nat) (v : tM) : eC ι (c, n, aPt j v l) = .inl (c - 20, n, .inr (.inr (.inr (.inr (va_up (fun i => vR (eT ι (aGt (aAd c) i l))) j (vR (eT ι v))))))) := by
  rw [eC_r ι (c := (c, n, aPt j v l)) hc]
  dsimp only
  congr 7
  funext i
  rw [aPt_ok]
  unfold va_up
  by_cases e : i = j
  · rw [if_pos e, if_pos e]
  · rw [if_neg e, if_neg e]
theorem aStW_ok {ι : aIn} {w : Nat} {G : aG} {st st1 : List tM} {h h1 : aHp} (g : aStW w G st h = some (st1, h1)) (hG : aOk ι G) :
    (w = 0 → sStAI (eS ι st) (eH ι h) = some (eS ι st1, eH ι h1)) ∧ (w = 1 → sStAL (eS ι st) (eH ι h) = some (eS ι st1, eH ι h1)) ∧ (w = 2 → sStAZ (eS ι st) (eH ι h) = some (eS ι st1, eH ι h1)) ∧ (w = 3 → sStAA (eS ι st) (eH ι h) = some (eS ι st1, eH ι h1)) := by
  unfold aStW at g
  split at g
  · rename_i v i t r
    split at g
    · rename_i a
      split at g
      rename_i c n l hc
      split at g
      · rename_i j hj
        obtain ⟨b, g⟩ := aBf g
        cases g
        obtain ⟨b1, b⟩ := aBa b
        obtain ⟨b2, b⟩ := aBa b
        obtain ⟨b3, b4⟩ := aBa b
        obtain ⟨x, x1, -, x2, x3⟩ := aNt_ok hj hG
        have hjn := aBl b3
        have hx : ¬ (x < 0 ∨ n ≤ x.toNatClampNeg) := by rw [x3]; exact fun e => e.elim x2 (fun e => by omega)
        have hat := eH_at ι (aBl b1)
        rw [hc] at hat
        refine ⟨fun e => ?_, fun e => ?_, fun e => ?_, fun e => ?_⟩
        · subst e
          have hc0 : c = 20 := aBt b2
          have hv : kT v = 0 := aBt b4
          rw [eC_i ι (c := (c, n, l)) (Or.inl hc0)] at hat
          show sStAI (eT ι v :: eT ι i :: .ref a :: eS ι st1) (eH ι h) = _
          unfold sStAI
          rw [x1, kT_0 hv]
          dsimp only
          rw [hat]
          dsimp only
          rw [if_pos ⟨by rw [hc0], hx⟩, x3, eH_set, eC_upI ι c n (Or.inl hc0)]
        · subst e
          have hc0 : c = 21 := aBt b2
          have hv : kT v = 1 := aBt b4
          subst hc0
          rw [eC_l ι (c := (21, n, l)) rfl] at hat
          show sStAL (eT ι v :: eT ι i :: .ref a :: eS ι st1) (eH ι h) = _
          unfold sStAL
          rw [x1, kT_1 hv]
          dsimp only
          rw [hat]
          dsimp only
          rw [if_pos ⟨rfl, hx⟩, x3, eH_set, eC_upL]
        · subst e
          have hc0 : c = 22 := aBt b2
          obtain ⟨y, y1, y2⟩ := aBo_ok b4 hG
          rw [eC_i ι (c := (c, n, l)) (Or.inr hc0)] at hat
          show sStAZ (eT ι v :: eT ι i :: .ref a :: eS ι st1) (eH ι h) = _
          unfold sStAZ
          rw [x1, y1]
          dsimp only
          rw [hat]
          dsimp only
          rw [if_pos ⟨by rw [hc0], y2, hx⟩, x3, eH_set, eC_upI ι c n (Or.inr hc0), y1]
          rfl
        · subst e
          have hc0 : 23 ≤ c ∧ c ≤ 25 := ⟨Nat.le_of_ble_eq_true (aBa b2).1, Nat.le_of_ble_eq_true (aBa b2).2⟩
          rw [eC_r ι (c := (c, n, l)) hc0] at hat
          show sStAA (eT ι v :: eT ι i :: .ref a :: eS ι st1) (eH ι h) = _
          rcases aStO_3 b4 with ⟨q, rfl, b5⟩ | ⟨rfl, hc1⟩
          · unfold sStAA
            rw [x1]
            show (match (eH ι h)[a]? with | some (.inl (t, n, .inr (.inr (.inr (.inr f))))) => _ | _ => none) = _
            rw [hat]
            dsimp only
            rw [if_pos ⟨aOb_ok ι b5, hx⟩, x3, eH_set, eC_upR ι c n hc0]
            rfl
          · unfold sStAA
            rw [x1]
            show (match (eH ι h)[a]? with | some (.inl (t, n, .inr (.inr (.inr (.inr f))))) => _ | _ => none) = _
            rw [hat]
            dsimp only
            rw [if_pos ⟨(show c - 20 = 3 ∨ c - 20 = 4 by omega), hx⟩, x3, eH_set, eC_upR ι c n hc0]
            rfl
      · cases g
    · cases g
  · cases g
def aLen (st : List tM) (h : aHp) : Option (List tM × aHp) := match st with
  | t :: r => (match t with
    | .index a => (match aCe h a with
      | (c, n, _) => bif Nat.blt a h.1 && (Nat.ble 20 c && Nat.ble c 25) then some (aCi (Int.ofNat n) :: r, h) else none)
    | _ => none)
  | _ => none
theorem aLen_ok (ι : aIn) {st st1 : List tM} {h h1 : aHp} (g : aLen st h = some (st1, h1)) : sALen (eS ι st) (eH ι h) = some (eS ι st1, eH ι h1) := by
  unfold aLen at g
  split at g
  · rename_i t r
    split at g
    · rename_i a
      split at g
      rename_i c n l hc
      obtain ⟨b, g⟩ := aBf g
      cases g
      obtain ⟨b1, b⟩ := aBa b
      obtain ⟨b2, b3⟩ := aBa b
      have h2 := Nat.le_of_ble_eq_true b2
      have h3 := Nat.le_of_ble_eq_true b3
      have hat := eH_at ι (aBl b1)
      rw [hc] at hat
      show sALen (.ref a :: eS ι r) (eH ι h) = some (eT ι (aCi (Int.ofNat n)) :: eS ι r, eH ι h)
      have en : eT ι (aCi (Int.ofNat n)) = .int (Int32.ofNat n) := by rw [aCi_ok]; congr 1
      unfold sALen
      dsimp only
      rw [en, hat]
      by_cases q1 : c = 20 ∨ c = 22
      · rw [eC_i ι (c := (c, n, l)) q1]
        exact if_pos (show c - 20 < 6 by omega)
      · by_cases q2 : c = 21
        · rw [eC_l ι (c := (c, n, l)) q2]
          exact if_pos (show 1 < 6 by omega)
        · rw [eC_r ι (c := (c, n, l)) (by dsimp only; omega)]
          exact if_pos (show c - 20 < 6 by omega)
    · cases g
  · cases g
/-! new cells -/
def aNk (k : Nat) : Bool := Nat.blt k 13 && (List.range (sNF k)).all (fun i => aTo (sTy k i))
def aNew (k : Nat) (st : List tM) (h : aHp) : Option (List tM × aHp) := bif aNk k then aF h.1 (fun m => aF (sNF k) (fun n => some (.index m :: st, aApp h (k, n, [])))) else none
theorem aNew_ok (ι : aIn) {k : Nat} {st st1 : List tM} {h h1 : aHp} (g : aNew k st h = some (st1, h1)) : sNew k (eS ι st) (eH ι h) = some (eS ι st1, eH ι h1) := by
  unfold aNew at g
  rw [aF_eq, aF_eq] at g
  obtain ⟨b, g⟩ := aBf g
  cases g
  obtain ⟨b1, b2⟩ := aBa b
  have hk := aBl b1
  unfold sNew
  rw [if_pos hk, eH_app, eH_len, eC_o ι (c := (k, sNF k, [])) (by dsimp only; omega)]
  have e : (List.range (sNF k)).map (fun i => eT ι (aGt (aTd (sTy k i)) i [])) = sDef k := by
    unfold sDef
    refine List.map_congr_left (fun i hi => ?_)
    exact aTd_ok ι (List.all_eq_true.mp b2 i hi)
  dsimp only
  rw [e]
  rfl
def aLn (G : aG) (t : tM) : Option Nat := match aNt G t with
  | some j => bif Nat.ble j 100000 then some j else none
  | none => none
theorem aLn_ok {ι : aIn} {G : aG} {t : tM} {j : Nat} (h : aLn G t = some j) (hG : aOk ι G) : ∃ x : Int32, eT ι t = .int x ∧ ¬ (x < 0 ∨ 100000 < x.toNatClampNeg) ∧ x.toNatClampNeg = j := by
  unfold aLn at h
  split at h
  · rename_i j' hj
    obtain ⟨b, h⟩ := aBf h
    cases h
    obtain ⟨x, x1, -, x2, x3⟩ := aNt_ok hj hG
    have hb := Nat.le_of_ble_eq_true b
    exact ⟨x, x1, by rw [x3]; exact fun e => e.elim x2 (fun e => by omega), x3⟩
  · cases h
def aTy (ty : ArrayType) : Nat := match ty with
  | .int => 20
  | .long => 21
  | .boolean => 22
  | _ => 30
def aNewA (ty : ArrayType) (G : aG) (st : List tM) (h : aHp) : Option (List tM × aHp) := match st with
  | t :: r => (match aLn G t with
    | some n => bif Nat.blt (aTy ty) 30 then aF h.1 (fun m => aF (aTy ty) (fun c => some (.index m :: r, aApp h (c, n, [])))) else none
    | none => none)
  | _ => none
theorem aNewA_ok {ι : aIn} {ty : ArrayType} {G : aG} {st st1 : List tM} {h h1 : aHp} (g : aNewA ty G st h = some (st1, h1)) (hG : aOk ι G) : sNewA ty (eS ι st) (eH ι h) = some (eS ι st1, eH ι h1) := by
  unfold aNewA at g
  split at g
  · rename_i t r
    split at g
    · rename_i n hn
      rw [aF_eq, aF_eq] at g
      obtain ⟨b, g⟩ := aBf g
      cases g
      have hb := aBl b
      obtain ⟨x, x1, x2, x3⟩ := aLn_ok hn hG
      show sNewA ty (eT ι t :: eS ι r) (eH ι h) = _
      unfold sNewA
      rw [x1]
      dsimp only
      rw [if_neg x2, eH_app, eH_len, x3]
      cases ty <;> first | rfl | exact absurd hb (by decide)
    · cases g
  · cases g
def aNewQ (k : Nat) (G : aG) (st : List tM) (h : aHp) : Option (List tM × aHp) := match st with
  | t :: r => (match aLn G t with
    | some n => bif Nat.beq k 3 || Nat.beq k 4 then aF h.1 (fun m => aF (20 + k) (fun c => some (.index m :: r, aApp h (c, n, [])))) else none
    | none => none)
  | _ => none
theorem aNewQ_ok {ι : aIn} {k : Nat} {G : aG} {st st1 : List tM} {h h1 : aHp} (g : aNewQ k G st h = some (st1, h1)) (hG : aOk ι G) : sNewQ k (eS ι st) (eH ι h) = some (eS ι st1, eH ι h1) := by
  unfold aNewQ at g
  split at g
  · rename_i t r
    split at g
    · rename_i n hn
      rw [aF_eq, aF_eq] at g
      obtain ⟨b, g⟩ := aBf g
      cases g
      have hk : k = 3 ∨ k = 4 := by
        rw [Bool.or_eq_true] at b
        exact b.imp aBt aBt
      obtain ⟨x, x1, x2, x3⟩ := aLn_ok hn hG
      show sNewQ k (eT ι t :: eS ι r) (eH ι h) = _
      unfold sNewQ
      rw [x1]
      dsimp only
      rw [if_neg (show ¬ (x < 0 ∨ 100000 < x.toNatClampNeg ∨ ¬ (k = 3 ∨ k = 4)) from fun e => e.elim (fun e => x2 (Or.inl e)) (fun e => e.elim (fun e => x2 (Or.inr e)) (fun e => e hk))), eH_app, eH_len, x3]
      rcases hk with rfl | rfl <;> rfl
    · cases g
  · cases g
def aNewM (G : aG) (st : List tM) (h : aHp) : Option (List tM × aHp) := match st with
  | t :: u :: r => (match aNt G u with
    | some n => (match aNt G t with
      | some k => bif Nat.beq n 5 && Nat.beq k 6 then aF h.1 (fun m => some (.index m :: r, aApp (aApp (aApp (aApp (aApp (aApp h (25, 5, [(0, .index (m + 1)), (1, .index (m + 2)), (2, .index (m + 3)), (3, .index (m + 4)), (4, .index (m + 5))])) (20, 6, [])) (20, 6, [])) (20, 6, [])) (20, 6, [])) (20, 6, []))) else none
      | none => none)
    | none => none)
  | _ => none
theorem aNewM_ok {ι : aIn} {G : aG} {st st1 : List tM} {h h1 : aHp} (g : aNewM G st h = some (st1, h1)) (hG : aOk ι G) : sNewM (eS ι st) (eH ι h) = some (eS ι st1, eH ι h1) := by
  unfold aNewM at g
  split at g
  · rename_i t u r
    split at g
    · rename_i n hn
      split at g
      · rename_i k hk
        rw [aF_eq] at g
        obtain ⟨b, g⟩ := aBf g
        cases g
        obtain ⟨b1, b2⟩ := aBa b
        cases aBt b1
        cases aBt b2
        obtain ⟨x, x1, x2, -, -⟩ := aNt_ok hn hG
        obtain ⟨y, y1, y2, -, -⟩ := aNt_ok hk hG
        have ex : x = 5 := Int32.toInt_inj.mp x2
        have ey : y = 6 := Int32.toInt_inj.mp y2
        show sNewM (eT ι t :: eT ι u :: eS ι r) (eH ι h) = _
        unfold sNewM
        rw [x1, y1]
        dsimp only
        rw [if_pos ⟨ex, ey⟩]
        rw [eH_app, eH_app, eH_app, eH_app, eH_app, eH_app, eH_len]
        simp only [List.append_assoc, List.cons_append, List.nil_append]
        have e1 : eC ι (25, 5, [(0, .index (h.1 + 1)), (1, .index (h.1 + 2)), (2, .index (h.1 + 3)), (3, .index (h.1 + 4)), (4, .index (h.1 + 5))]) = .inl (5, 5, .inr (.inr (.inr (.inr (fun j => if j < 5 then some (h.1 + 1 + j) else none))))) := by
          rw [eC_r ι (by dsimp only; omega)]
          dsimp only
          congr 7
          funext i
          match i with
          | 0 => rfl
          | 1 => rfl
          | 2 => rfl
          | 3 => rfl
          | 4 => rfl
          | i + 5 =>
            rw [if_neg (by omega)]
            rfl
        rw [e1]
        rfl
      · cases g
    · cases g
  · cases g
def aHeap (ins : Instr) (G : aG) (st : List tM) (h : aHp) : Option (List tM × aHp) := match ins with
  | .getfield k => aGetF k st h
  | .putfield k => aPutF k G st h
  | .iaload => aLdW 0 G st h
  | .baload => aLdW 2 G st h
  | .laload => aLdW 1 G st h
  | .aaload => aLdW 3 G st h
  | .iastore => aStW 0 G st h
  | .bastore => aStW 2 G st h
  | .lastore => aStW 1 G st h
  | .aastore => aStW 3 G st h
  | .arraylength => aLen st h
  | .new k => aNew k st h
  | .newarray ty => aNewA ty G st h
  | .anewarray k => aNewQ k G st h
  | .multianewarray _ _ => aNewM G st h
  | .ldc2_w k => some (.long (Int64.ofNat k) :: st, h)
  | .ldc k => bif Nat.blt k 4294967296 then some (.int (Int32.ofNat k) :: st, h) else none
  | .ldc_w k => some (.int (Int32.ofNat k) :: st, h)
  | _ => none
theorem aHeap_ok {ι : aIn} {ins : Instr} {G : aG} {st st1 : List tM} {h h1 : aHp} (g : aHeap ins G st h = some (st1, h1)) (hG : aOk ι G) : sHeap ins (eS ι st) (eH ι h) = some (eS ι st1, eH ι h1) := by
  unfold aHeap at g
  split at g
  · exact aGetF_ok ι g
  · exact aPutF_ok g hG
  · exact (aLdW_ok g hG).1 rfl
  · exact (aLdW_ok g hG).2.2.1 rfl
  · exact (aLdW_ok g hG).2.1 rfl
  · exact (aLdW_ok g hG).2.2.2 rfl
  · exact (aStW_ok g hG).1 rfl
  · exact (aStW_ok g hG).2.2.1 rfl
  · exact (aStW_ok g hG).2.1 rfl
  · exact (aStW_ok g hG).2.2.2 rfl
  · exact aLen_ok ι g
  · exact aNew_ok ι g
  · exact aNewA_ok g hG
  · exact aNewQ_ok g hG
  · exact aNewM_ok g hG
  · cases g; rfl
  · obtain ⟨b, g⟩ := aBf g
    cases g
    exact if_pos (aBl b)
  · cases g; rfl
  · cases g
end
