/-! ===== walking the simple machine ===== -/
def sUp (f g : Nat → List Value → sHp → sOr) : Prop := ∀ (k : Nat) (as : List Value) (h : sHp) (z : Option Value × sHp), f k as h = some z → g k as h = some z
theorem sRun_up {X : sX} {F : Nat → Option Instr} {rt : Option FieldType} {cal : Instr → List Value → sHp → Option (Nat × List Value × List Value)} {f g : Nat → List Value → sHp → sOr} (hfg : sUp f g) :
    ∀ (n n' : Nat), n ≤ n' → ∀ (pc : Nat) (L : sLo) (st : List Value) (h : sHp) (z : Option Value × sHp), sRun X F rt cal f n pc L st h = some z → sRun X F rt cal g n' pc L st h = some z := by
  intro n
  induction n with
  | zero => intro n' _ pc L st h z hr; cases hr
  | succ n ih =>
    intro n' hn pc L st h z hr
    obtain ⟨m, rfl⟩ : ∃ m, n' = m + 1 := ⟨n' - 1, by omega⟩
    have hm : n ≤ m := by omega
    rw [sRun] at hr ⊢
    cases hF : F pc with
    | none => rw [hF] at hr; cases hr
    | some ins =>
      rw [hF] at hr
      dsimp only at hr ⊢
      generalize sKnd ins = kd at hr ⊢
      match kd, hr with
      | 0, hr =>
        obtain ⟨st1, h1, h2⟩ := Option.bind_eq_some_iff.mp hr
        exact Option.bind_eq_some_iff.mpr ⟨st1, h1, ih m hm _ _ _ _ _ h2⟩
      | 1, hr =>
        obtain ⟨st1, h1, h2⟩ := Option.bind_eq_some_iff.mp hr
        exact Option.bind_eq_some_iff.mpr ⟨st1, h1, ih m hm _ _ _ _ _ h2⟩
      | 2, hr =>
        have h3 : (match sScr X ins st with
          | some st1 => sRun X F rt cal f n (pc + sLen ins) L st1 h
          | none => (sHeap ins st h).bind fun q => sRun X F rt cal f n (pc + sLen ins) L q.1 q.2) = some z := hr
        show (match sScr X ins st with
          | some st1 => sRun X F rt cal g m (pc + sLen ins) L st1 h
          | none => (sHeap ins st h).bind fun q => sRun X F rt cal g m (pc + sLen ins) L q.1 q.2) = some z
        cases hs : sScr X ins st with
        | some st1 =>
          rw [hs] at h3
          exact ih m hm _ _ _ _ _ h3
        | none =>
          rw [hs] at h3
          obtain ⟨st1, h1, h2⟩ := Option.bind_eq_some_iff.mp h3
          exact Option.bind_eq_some_iff.mpr ⟨st1, h1, ih m hm _ _ _ _ _ h2⟩
      | 3, hr =>
        obtain ⟨st1, h1, h2⟩ := Option.bind_eq_some_iff.mp hr
        exact Option.bind_eq_some_iff.mpr ⟨st1, h1, ih m hm _ _ _ _ _ h2⟩
      | 4, hr => exact hr
      | 5, hr =>
        obtain ⟨q, h1, h2⟩ := Option.bind_eq_some_iff.mp hr
        refine Option.bind_eq_some_iff.mpr ⟨q, h1, ?_⟩
        split at h2
        · rename_i hc
          rw [if_pos hc]
          obtain ⟨y, h3, h4⟩ := Option.bind_eq_some_iff.mp h2
          exact Option.bind_eq_some_iff.mpr ⟨y, hfg _ _ _ _ h3, ih m hm _ _ _ _ _ h4⟩
        · cases h2
      | j + 6, hr =>
        have h3 : (if (st.map (fun v => v.category)).sum ≤ 10 then (sSpec ins st).bind fun st1 => sRun X F rt cal f n (pc + 3) L st1 h else none) = some z := hr
        show (if (st.map (fun v => v.category)).sum ≤ 10 then (sSpec ins st).bind fun st1 => sRun X F rt cal g m (pc + 3) L st1 h else none) = some z
        by_cases hc : (st.map (fun v => v.category)).sum ≤ 10
        · rw [if_pos hc] at h3 ⊢
          obtain ⟨st1, h1, h2⟩ := Option.bind_eq_some_iff.mp h3
          exact Option.bind_eq_some_iff.mpr ⟨st1, h1, ih m hm _ _ _ _ _ h2⟩
        · rw [if_neg hc] at h3
          cases h3
theorem sCall_up : ∀ (d n n' : Nat), n ≤ n' → sUp (sCall d n) (sCall d n') := by
  intro d
  induction d with
  | zero => intro n n' _ k as h z hr; cases hr
  | succ d ih =>
    intro n n' hn k as h z hr
    rw [sCall] at hr ⊢
    by_cases hk : 300 ≤ k
    · rw [if_pos hk] at hr ⊢
      exact hr
    rw [if_neg hk] at hr ⊢
    obtain ⟨q, h1, h2⟩ := Option.bind_eq_some_iff.mp hr
    obtain ⟨L, h3, h4⟩ := Option.bind_eq_some_iff.mp h2
    exact Option.bind_eq_some_iff.mpr ⟨q, h1, Option.bind_eq_some_iff.mpr ⟨L, h3, sRun_up (ih n n' hn) n n' hn _ _ _ _ _ h4⟩⟩
theorem sStC_up {d k : Nat} {as : List Value} {h : sHp} {z : Option Value × sHp} (hr : sStC d k as h = some z) : sStC (d + 1) k as h = some z := by
  unfold sStC at hr ⊢
  split at hr
  · split at hr
    · rename_i hg
      rw [if_pos ⟨hg.1, by omega, hg.2.2⟩]
      exact hr
    · cases hr
  · split at hr
    · rename_i hg
      rw [if_pos ⟨hg.1, by omega, hg.2.2⟩]
      exact hr
    · cases hr
  · cases hr
theorem sM_lt {k : Nat} {q : sMt} (h : sM k = some q) : k < 300 := by
  have h1 := (List.getElem?_eq_some_iff.mp h).1
  have e : sMs.length = 259 := by decide +kernel
  omega
theorem sCall_dp : ∀ (d n : Nat), sUp (sCall d n) (sCall (d + 1) n) := by
  intro d
  induction d with
  | zero => intro n k as h z hr; cases hr
  | succ d ih =>
    intro n k as h z hr
    rw [sCall] at hr ⊢
    by_cases hk : 300 ≤ k
    · rw [if_pos hk] at hr ⊢
      exact sStC_up hr
    rw [if_neg hk] at hr ⊢
    obtain ⟨q, h1, h2⟩ := Option.bind_eq_some_iff.mp hr
    obtain ⟨L, h3, h4⟩ := Option.bind_eq_some_iff.mp h2
    exact Option.bind_eq_some_iff.mpr ⟨q, h1, Option.bind_eq_some_iff.mpr ⟨L, h3, sRun_up (ih n) n n (Nat.le_refl n) _ _ _ _ _ h4⟩⟩
def sFk (k pc : Nat) : Option Instr := (sM k).bind (fun q => sFt q pc)
def sNk (k : Nat) : Option Nat := (sM k).map mN
def sRk (k : Nat) : Option (Option FieldType) := (sM k).map mR
def sGo (X : sX) (k d pc : Nat) (L : sLo) (st : List Value) (h : sHp) (Q : Option Value → sHp → Prop) : Prop := ∃ (q : sMt) (nf n : Nat) (v : Option Value) (h' : sHp), sM k = some q ∧ sRun X (sFt q) (mR q) (sCal sNA sOwn sVt) (sCall d nf) n pc L st h = some (v, h') ∧ Q v h'
def sDo (d k : Nat) (as : List Value) (h : sHp) (Q : Option Value → sHp → Prop) : Prop := ∃ (nf : Nat) (r : Option Value) (h' : sHp), sCall d nf k as h = some (r, h') ∧ Q r h'
theorem sDo_up {d d' k : Nat} {as : List Value} {h : sHp} {Q : Option Value → sHp → Prop} (hd : d ≤ d') (g : sDo d k as h Q) : sDo d' k as h Q := by
  obtain ⟨nf, r, h', h1, h2⟩ := g
  refine ⟨nf, r, h', ?_, h2⟩
  obtain ⟨j, rfl⟩ : ∃ j, d' = d + j := ⟨d' - d, by omega⟩
  clear hd
  induction j with
  | zero => exact h1
  | succ j ih => exact sCall_dp _ _ _ _ _ _ ih
theorem sDo_mono {d k : Nat} {as : List Value} {h : sHp} {Q Q' : Option Value → sHp → Prop} (g : sDo d k as h Q) (hq : ∀ r h', Q r h' → Q' r h') : sDo d k as h Q' := by
  obtain ⟨nf, r, h', h1, h2⟩ := g
  exact ⟨nf, r, h', h1, hq r h' h2⟩
theorem sGo_mono {X : sX} {k d pc : Nat} {L : sLo} {st : List Value} {h : sHp} {Q Q' : Option Value → sHp → Prop} (g : sGo X k d pc L st h Q) (hq : ∀ r h', Q r h' → Q' r h') : sGo X k d pc L st h Q' := by
  obtain ⟨q, nf, n, v, h', h1, h2, h3⟩ := g
  exact ⟨q, nf, n, v, h', h1, h2, hq v h' h3⟩
theorem sDo_of {d k nL : Nat} {as : List Value} {h : sHp} {Q : Option Value → sHp → Prop} {L : sLo} (hn : sNk k = some nL) (hi : sIni nL as = some L) (g : sGo none k d 0 L [] h Q) : sDo (d + 1) k as h Q := by
  obtain ⟨q, nf, n, v, h', hq, hr, hQ⟩ := g
  refine ⟨nf + n, v, h', ?_, hQ⟩
  have hlt := sM_lt hq
  rw [sCall, if_neg (by omega)]
  have hnq : mN q = nL := by
    unfold sNk at hn
    rw [hq] at hn
    exact Option.some.inj hn
  refine Option.bind_eq_some_iff.mpr ⟨q, hq, Option.bind_eq_some_iff.mpr ⟨L, by rw [hnq]; exact hi, ?_⟩⟩
  exact sRun_up (sCall_up d nf (nf + n) (by omega)) n (nf + n) (by omega) _ _ _ _ _ hr
section GO
variable {X : sX} {k d pc : Nat} {L : sLo} {st : List Value} {h : sHp} {Q : Option Value → sHp → Prop} {ins : Instr}
theorem sFk_at {q : sMt} (hq : sM k = some q) (hF : sFk k pc = some ins) : sFt q pc = some ins := by
  unfold sFk at hF
  rw [hq] at hF
  exact hF
theorem go_pure {st1 : List Value} (hF : sFk k pc = some ins) (hk : sKnd ins = 0) (h1 : sPure ins st = some st1) (g : sGo X k d (pc + sLen ins) L st1 h Q) : sGo X k d pc L st h Q := by
  obtain ⟨q, nf, n, v, h', hq, hr, hQ⟩ := g
  refine ⟨q, nf, n + 1, v, h', hq, ?_, hQ⟩
  rw [sRun, sFk_at hq hF]
  dsimp only
  rw [hk]
  exact Option.bind_eq_some_iff.mpr ⟨st1, h1, hr⟩
theorem go_loc {L1 : sLo} {st1 : List Value} (hF : sFk k pc = some ins) (hk : sKnd ins = 1) (h1 : sLoc ins L st = some (L1, st1)) (g : sGo X k d (pc + sLen ins) L1 st1 h Q) : sGo X k d pc L st h Q := by
  obtain ⟨q, nf, n, v, h', hq, hr, hQ⟩ := g
  refine ⟨q, nf, n + 1, v, h', hq, ?_, hQ⟩
  rw [sRun, sFk_at hq hF]
  dsimp only
  rw [hk]
  exact Option.bind_eq_some_iff.mpr ⟨(L1, st1), h1, hr⟩
theorem go_heap {st1 : List Value} {h1 : sHp} (hF : sFk k pc = some ins) (hk : sKnd ins = 2) (hs : sScr X ins st = none) (hh : sHeap ins st h = some (st1, h1)) (g : sGo X k d (pc + sLen ins) L st1 h1 Q) : sGo X k d pc L st h Q := by
  obtain ⟨q, nf, n, v, h', hq, hr, hQ⟩ := g
  refine ⟨q, nf, n + 1, v, h', hq, ?_, hQ⟩
  rw [sRun, sFk_at hq hF]
  dsimp only
  rw [hk]
  try dsimp only
  rw [hs]
  exact Option.bind_eq_some_iff.mpr ⟨(st1, h1), hh, hr⟩
theorem go_scr {st1 : List Value} (hF : sFk k pc = some ins) (hk : sKnd ins = 2) (hs : sScr X ins st = some st1) (g : sGo X k d (pc + sLen ins) L st1 h Q) : sGo X k d pc L st h Q := by
  obtain ⟨q, nf, n, v, h', hq, hr, hQ⟩ := g
  refine ⟨q, nf, n + 1, v, h', hq, ?_, hQ⟩
  rw [sRun, sFk_at hq hF]
  dsimp only
  rw [hk]
  try dsimp only
  rw [hs]
  exact hr
theorem go_jmp {pc1 : Nat} {st1 : List Value} (hF : sFk k pc = some ins) (hk : sKnd ins = 3) (hj : sJmp ins pc st = some (pc1, st1)) (g : sGo X k d pc1 L st1 h Q) : sGo X k d pc L st h Q := by
  obtain ⟨q, nf, n, v, h', hq, hr, hQ⟩ := g
  refine ⟨q, nf, n + 1, v, h', hq, ?_, hQ⟩
  rw [sRun, sFk_at hq hF]
  dsimp only
  rw [hk]
  exact Option.bind_eq_some_iff.mpr ⟨(pc1, st1), hj, hr⟩
theorem go_ret {v : Option Value} {rt : Option FieldType} (hF : sFk k pc = some ins) (hk : sKnd ins = 4) (hrk : sRk k = some rt) (h1 : sRet rt ins st = some v) (hQ : Q v h) : sGo X k d pc L st h Q := by
  unfold sRk at hrk
  cases hq : sM k with
  | none => rw [hq] at hrk; cases hrk
  | some q =>
    rw [hq] at hrk
    have e : mR q = rt := Option.some.inj hrk
    refine ⟨q, 0, 1, v, h, hq, ?_, hQ⟩
    rw [sRun, sFk_at hq hF]
    dsimp only
    rw [hk, e]
    try dsimp only
    rw [h1]
    rfl
theorem go_spec {st1 : List Value} (hF : sFk k pc = some ins) (hk : sKnd ins = 6) (hcat : (st.map (fun v => v.category)).sum ≤ 10) (h1 : sSpec ins st = some st1) (g : sGo X k d (pc + 3) L st1 h Q) : sGo X k d pc L st h Q := by
  obtain ⟨q, nf, n, v, h', hq, hr, hQ⟩ := g
  refine ⟨q, nf, n + 1, v, h', hq, ?_, hQ⟩
  rw [sRun, sFk_at hq hF]
  dsimp only
  rw [hk]
  try dsimp only
  rw [if_pos hcat]
  exact Option.bind_eq_some_iff.mpr ⟨st1, h1, hr⟩
theorem go_call {k1 : Nat} {as rest : List Value} {Qc : Option Value → sHp → Prop} (hF : sFk k pc = some ins) (hk : sKnd ins = 5) (hc : sCal sNA sOwn sVt ins st h = some (k1, as, rest)) (hcat : (rest.map (fun v => v.category)).sum ≤ 8) (hD : sDo d k1 as h Qc) (g : ∀ (r : Option Value) (h1 : sHp), Qc r h1 → sGo X k d (pc + 3) L (r.toList ++ rest) h1 Q) : sGo X k d pc L st h Q := by
  obtain ⟨nc, r, h1, e1, hQc⟩ := hD
  obtain ⟨q, nf, n, v, h', hq, hr, hQ⟩ := g r h1 hQc
  refine ⟨q, nf + nc, n + 1, v, h', hq, ?_, hQ⟩
  rw [sRun, sFk_at hq hF]
  dsimp only
  rw [hk]
  refine Option.bind_eq_some_iff.mpr ⟨(k1, as, rest), hc, ?_⟩
  rw [if_pos hcat]
  refine Option.bind_eq_some_iff.mpr ⟨(r, h1), sCall_up d nc (nf + nc) (by omega) _ _ _ _ e1, ?_⟩
  exact sRun_up (sCall_up d nf (nf + nc) (by omega)) n n (Nat.le_refl n) _ _ _ _ _ hr

theorem g_iconst {n : Int} (hF : sFk k pc = some (.iconst n)) (g : sGo X k d (pc + 1) L (.int (Int32.ofInt n) :: st) h Q) : sGo X k d pc L (st) h Q := go_pure hF rfl rfl g
theorem g_bipush {n : Int} (hF : sFk k pc = some (.bipush n)) (g : sGo X k d (pc + 2) L (.int (Int8.ofInt n).toInt32 :: st) h Q) : sGo X k d pc L (st) h Q := go_pure hF rfl rfl g
theorem g_sipush {n : Int} (hF : sFk k pc = some (.sipush n)) (g : sGo X k d (pc + 3) L (.int (Int16.ofInt n).toInt32 :: st) h Q) : sGo X k d pc L (st) h Q := go_pure hF rfl rfl g
theorem g_lconst {n : Fin 2} (hF : sFk k pc = some (.lconst n)) (g : sGo X k d (pc + 1) L (.long (Int64.ofNat (n : Nat)) :: st) h Q) : sGo X k d pc L (st) h Q := go_pure hF rfl rfl g
theorem g_aconst_null (hF : sFk k pc = some (.aconst_null)) (g : sGo X k d (pc + 1) L (.null :: st) h Q) : sGo X k d pc L (st) h Q := go_pure hF rfl rfl g
theorem g_iadd {x y : Int32} (hF : sFk k pc = some (.iadd)) (g : sGo X k d (pc + 1) L (.int (x + y) :: st) h Q) : sGo X k d pc L (.int y :: .int x :: st) h Q := go_pure hF rfl rfl g
theorem g_isub {x y : Int32} (hF : sFk k pc = some (.isub)) (g : sGo X k d (pc + 1) L (.int (x - y) :: st) h Q) : sGo X k d pc L (.int y :: .int x :: st) h Q := go_pure hF rfl rfl g
theorem g_imul {x y : Int32} (hF : sFk k pc = some (.imul)) (g : sGo X k d (pc + 1) L (.int (x * y) :: st) h Q) : sGo X k d pc L (.int y :: .int x :: st) h Q := go_pure hF rfl rfl g
theorem g_iand {x y : Int32} (hF : sFk k pc = some (.iand)) (g : sGo X k d (pc + 1) L (.int (x &&& y) :: st) h Q) : sGo X k d pc L (.int y :: .int x :: st) h Q := go_pure hF rfl rfl g
theorem g_ior {x y : Int32} (hF : sFk k pc = some (.ior)) (g : sGo X k d (pc + 1) L (.int (x ||| y) :: st) h Q) : sGo X k d pc L (.int y :: .int x :: st) h Q := go_pure hF rfl rfl g
theorem g_ixor {x y : Int32} (hF : sFk k pc = some (.ixor)) (g : sGo X k d (pc + 1) L (.int (x ^^^ y) :: st) h Q) : sGo X k d pc L (.int y :: .int x :: st) h Q := go_pure hF rfl rfl g
theorem g_ishl {x y : Int32} (hF : sFk k pc = some (.ishl)) (g : sGo X k d (pc + 1) L (.int (x <<< (y &&& 31)) :: st) h Q) : sGo X k d pc L (.int y :: .int x :: st) h Q := go_pure hF rfl rfl g
theorem g_ishr {x y : Int32} (hF : sFk k pc = some (.ishr)) (g : sGo X k d (pc + 1) L (.int (x >>> (y &&& 31)) :: st) h Q) : sGo X k d pc L (.int y :: .int x :: st) h Q := go_pure hF rfl rfl g
theorem g_idiv {x y : Int32} (hF : sFk k pc = some (.idiv)) (h0 : ¬ y = 0) (g : sGo X k d (pc + 1) L (.int (x / y) :: st) h Q) : sGo X k d pc L (.int y :: .int x :: st) h Q := go_pure hF rfl (show (if y = 0 then none else some (Value.int (x / y))).map (fun v => v :: st) = _ by rw [if_neg h0]; rfl) g
theorem g_irem {x y : Int32} (hF : sFk k pc = some (.irem)) (h0 : ¬ y = 0) (g : sGo X k d (pc + 1) L (.int (x - x / y * y) :: st) h Q) : sGo X k d pc L (.int y :: .int x :: st) h Q := go_pure hF rfl (show (if y = 0 then none else some (Value.int (x - x / y * y))).map (fun v => v :: st) = _ by rw [if_neg h0]; rfl) g
theorem g_ladd {x y : Int64} (hF : sFk k pc = some (.ladd)) (g : sGo X k d (pc + 1) L (.long (x + y) :: st) h Q) : sGo X k d pc L (.long y :: .long x :: st) h Q := go_pure hF rfl rfl g
theorem g_lsub {x y : Int64} (hF : sFk k pc = some (.lsub)) (g : sGo X k d (pc + 1) L (.long (x - y) :: st) h Q) : sGo X k d pc L (.long y :: .long x :: st) h Q := go_pure hF rfl rfl g
theorem g_land {x y : Int64} (hF : sFk k pc = some (.land)) (g : sGo X k d (pc + 1) L (.long (x &&& y) :: st) h Q) : sGo X k d pc L (.long y :: .long x :: st) h Q := go_pure hF rfl rfl g
theorem g_lor {x y : Int64} (hF : sFk k pc = some (.lor)) (g : sGo X k d (pc + 1) L (.long (x ||| y) :: st) h Q) : sGo X k d pc L (.long y :: .long x :: st) h Q := go_pure hF rfl rfl g
theorem g_lxor {x y : Int64} (hF : sFk k pc = some (.lxor)) (g : sGo X k d (pc + 1) L (.long (x ^^^ y) :: st) h Q) : sGo X k d pc L (.long y :: .long x :: st) h Q := go_pure hF rfl rfl g
theorem g_lcmp {x y : Int64} (hF : sFk k pc = some (.lcmp)) (g : sGo X k d (pc + 1) L (.int (lg_cmp x y) :: st) h Q) : sGo X k d pc L (.long y :: .long x :: st) h Q := go_pure hF rfl rfl g
theorem g_lshl {x : Int64} {y : Int32} (hF : sFk k pc = some (.lshl)) (g : sGo X k d (pc + 1) L (.long (x <<< (y.toInt64 &&& 63)) :: st) h Q) : sGo X k d pc L (.int y :: .long x :: st) h Q := go_pure hF rfl rfl g
theorem g_lshr {x : Int64} {y : Int32} (hF : sFk k pc = some (.lshr)) (g : sGo X k d (pc + 1) L (.long (x >>> (y.toInt64 &&& 63)) :: st) h Q) : sGo X k d pc L (.int y :: .long x :: st) h Q := go_pure hF rfl rfl g
theorem g_lushr {x : Int64} {y : Int32} (hF : sFk k pc = some (.lushr)) (g : sGo X k d (pc + 1) L (.long ((x.toUInt64 >>> (y.toInt64.toUInt64 &&& Int64.toUInt64 63)).toInt64) :: st) h Q) : sGo X k d pc L (.int y :: .long x :: st) h Q := go_pure hF rfl rfl g
theorem g_ineg {x : Int32} (hF : sFk k pc = some (.ineg)) (g : sGo X k d (pc + 1) L (.int (-x) :: st) h Q) : sGo X k d pc L (.int x :: st) h Q := go_pure hF rfl rfl g
theorem g_lneg {x : Int64} (hF : sFk k pc = some (.lneg)) (g : sGo X k d (pc + 1) L (.long (-x) :: st) h Q) : sGo X k d pc L (.long x :: st) h Q := go_pure hF rfl rfl g
theorem g_i2l {x : Int32} (hF : sFk k pc = some (.i2l)) (g : sGo X k d (pc + 1) L (.long x.toInt64 :: st) h Q) : sGo X k d pc L (.int x :: st) h Q := go_pure hF rfl rfl g
theorem g_l2i {x : Int64} (hF : sFk k pc = some (.l2i)) (g : sGo X k d (pc + 1) L (.int x.toInt32 :: st) h Q) : sGo X k d pc L (.long x :: st) h Q := go_pure hF rfl rfl g
theorem g_i2b {x : Int32} (hF : sFk k pc = some (.i2b)) (g : sGo X k d (pc + 1) L (.int x.toInt8.toInt32 :: st) h Q) : sGo X k d pc L (.int x :: st) h Q := go_pure hF rfl rfl g
theorem g_i2s {x : Int32} (hF : sFk k pc = some (.i2s)) (g : sGo X k d (pc + 1) L (.int x.toInt16.toInt32 :: st) h Q) : sGo X k d pc L (.int x :: st) h Q := go_pure hF rfl rfl g
theorem g_i2c {x : Int32} (hF : sFk k pc = some (.i2c)) (g : sGo X k d (pc + 1) L (.int (x.toUInt32 % 65536).toInt32 :: st) h Q) : sGo X k d pc L (.int x :: st) h Q := go_pure hF rfl rfl g
theorem g_dup {a : Value} (hF : sFk k pc = some (.dup)) (ha : a.category = 1) (g : sGo X k d (pc + 1) L (a :: a :: st) h Q) : sGo X k d pc L (a :: st) h Q := go_pure hF rfl (if_pos ha) g
theorem g_pop {a : Value} (hF : sFk k pc = some (.pop)) (ha : a.category = 1) (g : sGo X k d (pc + 1) L (st) h Q) : sGo X k d pc L (a :: st) h Q := go_pure hF rfl (if_pos ha) g
theorem g_dup_x1 {a b : Value} (hF : sFk k pc = some (.dup_x1)) (ha : a.category = 1) (hb : b.category = 1) (g : sGo X k d (pc + 1) L (a :: b :: a :: st) h Q) : sGo X k d pc L (a :: b :: st) h Q := go_pure hF rfl (if_pos ⟨ha, hb⟩) g
theorem g_dup2 {a b : Value} (hF : sFk k pc = some (.dup2)) (ha : a.category = 1) (hb : b.category = 1) (g : sGo X k d (pc + 1) L (a :: b :: a :: b :: st) h Q) : sGo X k d pc L (a :: b :: st) h Q := go_pure hF rfl (if_pos ⟨ha, hb⟩) g
theorem g_iload {i : Nat} {x : Int32} (hF : sFk k pc = some (.iload i)) (hl : L[i]? = some (some (.int x))) (g : sGo X k d (pc + 2) (L) (.int x :: st) h Q) : sGo X k d pc L (st) h Q := go_loc hF rfl (show sLdI L i st = _ by unfold sLdI; rw [hl]) g
theorem g_iload_n {i : Fin 4} {x : Int32} (hF : sFk k pc = some (.iload_n i)) (hl : L[(i : Nat)]? = some (some (.int x))) (g : sGo X k d (pc + 1) (L) (.int x :: st) h Q) : sGo X k d pc L (st) h Q := go_loc hF rfl (show sLdI L (i : Nat) st = _ by unfold sLdI; rw [hl]) g
theorem g_lload {i : Nat} {x : Int64} (hF : sFk k pc = some (.lload i)) (hl : L[i]? = some (some (.long x))) (g : sGo X k d (pc + 2) (L) (.long x :: st) h Q) : sGo X k d pc L (st) h Q := go_loc hF rfl (show sLdL L i st = _ by unfold sLdL; rw [hl]) g
theorem g_lload_n {i : Fin 4} {x : Int64} (hF : sFk k pc = some (.lload_n i)) (hl : L[(i : Nat)]? = some (some (.long x))) (g : sGo X k d (pc + 1) (L) (.long x :: st) h Q) : sGo X k d pc L (st) h Q := go_loc hF rfl (show sLdL L (i : Nat) st = _ by unfold sLdL; rw [hl]) g
theorem g_aload {i : Nat} {x : Nat} (hF : sFk k pc = some (.aload i)) (hl : L[i]? = some (some (.ref x))) (g : sGo X k d (pc + 2) (L) (.ref x :: st) h Q) : sGo X k d pc L (st) h Q := go_loc hF rfl (show sLdA L i st = _ by unfold sLdA; rw [hl]) g
theorem g_aloadN {i : Nat} (hF : sFk k pc = some (.aload i)) (hl : L[i]? = some (some .null)) (g : sGo X k d (pc + 2) (L) (.null :: st) h Q) : sGo X k d pc L (st) h Q := go_loc hF rfl (show sLdA L i st = _ by unfold sLdA; rw [hl]) g
theorem g_aload_n {i : Fin 4} {x : Nat} (hF : sFk k pc = some (.aload_n i)) (hl : L[(i : Nat)]? = some (some (.ref x))) (g : sGo X k d (pc + 1) (L) (.ref x :: st) h Q) : sGo X k d pc L (st) h Q := go_loc hF rfl (show sLdA L (i : Nat) st = _ by unfold sLdA; rw [hl]) g
theorem g_aload_nN {i : Fin 4} (hF : sFk k pc = some (.aload_n i)) (hl : L[(i : Nat)]? = some (some .null)) (g : sGo X k d (pc + 1) (L) (.null :: st) h Q) : sGo X k d pc L (st) h Q := go_loc hF rfl (show sLdA L (i : Nat) st = _ by unfold sLdA; rw [hl]) g
theorem g_istore {i : Nat} {x : Int32} {L1 : sLo} (hF : sFk k pc = some (.istore i)) (hi : i < L.length) (hL : sPut L i (.int x) = L1) (g : sGo X k d (pc + 2) (L1) (st) h Q) : sGo X k d pc L (.int x :: st) h Q := go_loc hF rfl (show sStI L i (.int x :: st) = _ by unfold sStI; dsimp only; rw [if_pos hi, hL]) g
theorem g_istore_n {i : Fin 4} {x : Int32} {L1 : sLo} (hF : sFk k pc = some (.istore_n i)) (hi : (i : Nat) < L.length) (hL : sPut L (i : Nat) (.int x) = L1) (g : sGo X k d (pc + 1) (L1) (st) h Q) : sGo X k d pc L (.int x :: st) h Q := go_loc hF rfl (show sStI L (i : Nat) (.int x :: st) = _ by unfold sStI; dsimp only; rw [if_pos hi, hL]) g
theorem g_lstore {i : Nat} {x : Int64} {L1 : sLo} (hF : sFk k pc = some (.lstore i)) (hi : i + 1 < L.length) (hL : sPutL L i (.long x) = L1) (g : sGo X k d (pc + 2) (L1) (st) h Q) : sGo X k d pc L (.long x :: st) h Q := go_loc hF rfl (show sStL L i (.long x :: st) = _ by unfold sStL; dsimp only; rw [if_pos hi, hL]) g
theorem g_lstore_n {i : Fin 4} {x : Int64} {L1 : sLo} (hF : sFk k pc = some (.lstore_n i)) (hi : (i : Nat) + 1 < L.length) (hL : sPutL L (i : Nat) (.long x) = L1) (g : sGo X k d (pc + 1) (L1) (st) h Q) : sGo X k d pc L (.long x :: st) h Q := go_loc hF rfl (show sStL L (i : Nat) (.long x :: st) = _ by unfold sStL; dsimp only; rw [if_pos hi, hL]) g
theorem g_astore {i : Nat} {x : Nat} {L1 : sLo} (hF : sFk k pc = some (.astore i)) (hi : i < L.length) (hL : sPut L i (.ref x) = L1) (g : sGo X k d (pc + 2) (L1) (st) h Q) : sGo X k d pc L (.ref x :: st) h Q := go_loc hF rfl (show sStA L i (.ref x :: st) = _ by unfold sStA; dsimp only; rw [if_pos hi, hL]) g
theorem g_astoreN {i : Nat} {L1 : sLo} (hF : sFk k pc = some (.astore i)) (hi : i < L.length) (hL : sPut L i .null = L1) (g : sGo X k d (pc + 2) (L1) (st) h Q) : sGo X k d pc L (.null :: st) h Q := go_loc hF rfl (show sStA L i (.null :: st) = _ by unfold sStA; dsimp only; rw [if_pos hi, hL]) g
theorem g_astore_n {i : Fin 4} {x : Nat} {L1 : sLo} (hF : sFk k pc = some (.astore_n i)) (hi : (i : Nat) < L.length) (hL : sPut L (i : Nat) (.ref x) = L1) (g : sGo X k d (pc + 1) (L1) (st) h Q) : sGo X k d pc L (.ref x :: st) h Q := go_loc hF rfl (show sStA L (i : Nat) (.ref x :: st) = _ by unfold sStA; dsimp only; rw [if_pos hi, hL]) g
theorem g_astore_nN {i : Fin 4} {L1 : sLo} (hF : sFk k pc = some (.astore_n i)) (hi : (i : Nat) < L.length) (hL : sPut L (i : Nat) .null = L1) (g : sGo X k d (pc + 1) (L1) (st) h Q) : sGo X k d pc L (.null :: st) h Q := go_loc hF rfl (show sStA L (i : Nat) (.null :: st) = _ by unfold sStA; dsimp only; rw [if_pos hi, hL]) g
theorem g_iinc {i : Nat} {n : Int} {x : Int32} {L1 : sLo} (hF : sFk k pc = some (.iinc i n)) (hl : L[i]? = some (some (.int x))) (hL : sPut L i (.int (x + Int32.ofInt n)) = L1) (g : sGo X k d (pc + 3) (L1) (st) h Q) : sGo X k d pc L (st) h Q := go_loc hF rfl (show sInc L i n st = _ by unfold sInc; rw [hl]; dsimp only; rw [hL]) g
theorem g_icmp_eq {x y : Int32} {off : Int} (t : Nat) (hF : sFk k pc = some (.if_icmp .eq off)) (ht : sTgt pc off = some t) (kt : x = y → sGo X k d t L st h Q) (kf : ¬ x = y → sGo X k d (pc + 3) L st h Q) : sGo X k d pc L (.int y :: .int x :: st) h Q := by
  by_cases hc : x = y
  · exact go_jmp hF rfl (by show sIf pc off (sC2 .eq x y) st = _; unfold sIf; rw [ht, show sC2 .eq x y = true from decide_eq_true hc]; rfl) (kt hc)
  · exact go_jmp hF rfl (by show sIf pc off (sC2 .eq x y) st = _; unfold sIf; rw [ht, show sC2 .eq x y = false from decide_eq_false hc]; rfl) (kf hc)
theorem g_if_eq {x : Int32} {off : Int} (t : Nat) (hF : sFk k pc = some (.ifCond .eq off)) (ht : sTgt pc off = some t) (kt : x = 0 → sGo X k d t L st h Q) (kf : ¬ x = 0 → sGo X k d (pc + 3) L st h Q) : sGo X k d pc L (.int x :: st) h Q := by
  by_cases hc : x = 0
  · exact go_jmp hF rfl (by show sIf pc off (sC2 .eq x 0) st = _; unfold sIf; rw [ht, show sC2 .eq x 0 = true from decide_eq_true hc]; rfl) (kt hc)
  · exact go_jmp hF rfl (by show sIf pc off (sC2 .eq x 0) st = _; unfold sIf; rw [ht, show sC2 .eq x 0 = false from decide_eq_false hc]; rfl) (kf hc)
theorem g_icmp_ne {x y : Int32} {off : Int} (t : Nat) (hF : sFk k pc = some (.if_icmp .ne off)) (ht : sTgt pc off = some t) (kt : ¬ x = y → sGo X k d t L st h Q) (kf : x = y → sGo X k d (pc + 3) L st h Q) : sGo X k d pc L (.int y :: .int x :: st) h Q := by
  by_cases hc : x = y
  · exact go_jmp hF rfl (by show sIf pc off (sC2 .ne x y) st = _; unfold sIf; rw [ht, show sC2 .ne x y = false from by show (!decide (x = y)) = false; rw [decide_eq_true hc]; rfl]; rfl) (kf hc)
  · exact go_jmp hF rfl (by show sIf pc off (sC2 .ne x y) st = _; unfold sIf; rw [ht, show sC2 .ne x y = true from by show (!decide (x = y)) = true; rw [decide_eq_false hc]; rfl]; rfl) (kt hc)
theorem g_if_ne {x : Int32} {off : Int} (t : Nat) (hF : sFk k pc = some (.ifCond .ne off)) (ht : sTgt pc off = some t) (kt : ¬ x = 0 → sGo X k d t L st h Q) (kf : x = 0 → sGo X k d (pc + 3) L st h Q) : sGo X k d pc L (.int x :: st) h Q := by
  by_cases hc : x = 0
  · exact go_jmp hF rfl (by show sIf pc off (sC2 .ne x 0) st = _; unfold sIf; rw [ht, show sC2 .ne x 0 = false from by show (!decide (x = 0)) = false; rw [decide_eq_true hc]; rfl]; rfl) (kf hc)
  · exact go_jmp hF rfl (by show sIf pc off (sC2 .ne x 0) st = _; unfold sIf; rw [ht, show sC2 .ne x 0 = true from by show (!decide (x = 0)) = true; rw [decide_eq_false hc]; rfl]; rfl) (kt hc)
theorem g_icmp_lt {x y : Int32} {off : Int} (t : Nat) (hF : sFk k pc = some (.if_icmp .lt off)) (ht : sTgt pc off = some t) (kt : x < y → sGo X k d t L st h Q) (kf : ¬ x < y → sGo X k d (pc + 3) L st h Q) : sGo X k d pc L (.int y :: .int x :: st) h Q := by
  by_cases hc : x < y
  · exact go_jmp hF rfl (by show sIf pc off (sC2 .lt x y) st = _; unfold sIf; rw [ht, show sC2 .lt x y = true from decide_eq_true hc]; rfl) (kt hc)
  · exact go_jmp hF rfl (by show sIf pc off (sC2 .lt x y) st = _; unfold sIf; rw [ht, show sC2 .lt x y = false from decide_eq_false hc]; rfl) (kf hc)
theorem g_if_lt {x : Int32} {off : Int} (t : Nat) (hF : sFk k pc = some (.ifCond .lt off)) (ht : sTgt pc off = some t) (kt : x < 0 → sGo X k d t L st h Q) (kf : ¬ x < 0 → sGo X k d (pc + 3) L st h Q) : sGo X k d pc L (.int x :: st) h Q := by
  by_cases hc : x < 0
  · exact go_jmp hF rfl (by show sIf pc off (sC2 .lt x 0) st = _; unfold sIf; rw [ht, show sC2 .lt x 0 = true from decide_eq_true hc]; rfl) (kt hc)
  · exact go_jmp hF rfl (by show sIf pc off (sC2 .lt x 0) st = _; unfold sIf; rw [ht, show sC2 .lt x 0 = false from decide_eq_false hc]; rfl) (kf hc)
theorem g_icmp_ge {x y : Int32} {off : Int} (t : Nat) (hF : sFk k pc = some (.if_icmp .ge off)) (ht : sTgt pc off = some t) (kt : y ≤ x → sGo X k d t L st h Q) (kf : ¬ y ≤ x → sGo X k d (pc + 3) L st h Q) : sGo X k d pc L (.int y :: .int x :: st) h Q := by
  by_cases hc : y ≤ x
  · exact go_jmp hF rfl (by show sIf pc off (sC2 .ge x y) st = _; unfold sIf; rw [ht, show sC2 .ge x y = true from decide_eq_true hc]; rfl) (kt hc)
  · exact go_jmp hF rfl (by show sIf pc off (sC2 .ge x y) st = _; unfold sIf; rw [ht, show sC2 .ge x y = false from decide_eq_false hc]; rfl) (kf hc)
theorem g_if_ge {x : Int32} {off : Int} (t : Nat) (hF : sFk k pc = some (.ifCond .ge off)) (ht : sTgt pc off = some t) (kt : 0 ≤ x → sGo X k d t L st h Q) (kf : ¬ 0 ≤ x → sGo X k d (pc + 3) L st h Q) : sGo X k d pc L (.int x :: st) h Q := by
  by_cases hc : 0 ≤ x
  · exact go_jmp hF rfl (by show sIf pc off (sC2 .ge x 0) st = _; unfold sIf; rw [ht, show sC2 .ge x 0 = true from decide_eq_true hc]; rfl) (kt hc)
  · exact go_jmp hF rfl (by show sIf pc off (sC2 .ge x 0) st = _; unfold sIf; rw [ht, show sC2 .ge x 0 = false from decide_eq_false hc]; rfl) (kf hc)
theorem g_icmp_gt {x y : Int32} {off : Int} (t : Nat) (hF : sFk k pc = some (.if_icmp .gt off)) (ht : sTgt pc off = some t) (kt : y < x → sGo X k d t L st h Q) (kf : ¬ y < x → sGo X k d (pc + 3) L st h Q) : sGo X k d pc L (.int y :: .int x :: st) h Q := by
  by_cases hc : y < x
  · exact go_jmp hF rfl (by show sIf pc off (sC2 .gt x y) st = _; unfold sIf; rw [ht, show sC2 .gt x y = true from decide_eq_true hc]; rfl) (kt hc)
  · exact go_jmp hF rfl (by show sIf pc off (sC2 .gt x y) st = _; unfold sIf; rw [ht, show sC2 .gt x y = false from decide_eq_false hc]; rfl) (kf hc)
theorem g_if_gt {x : Int32} {off : Int} (t : Nat) (hF : sFk k pc = some (.ifCond .gt off)) (ht : sTgt pc off = some t) (kt : 0 < x → sGo X k d t L st h Q) (kf : ¬ 0 < x → sGo X k d (pc + 3) L st h Q) : sGo X k d pc L (.int x :: st) h Q := by
  by_cases hc : 0 < x
  · exact go_jmp hF rfl (by show sIf pc off (sC2 .gt x 0) st = _; unfold sIf; rw [ht, show sC2 .gt x 0 = true from decide_eq_true hc]; rfl) (kt hc)
  · exact go_jmp hF rfl (by show sIf pc off (sC2 .gt x 0) st = _; unfold sIf; rw [ht, show sC2 .gt x 0 = false from decide_eq_false hc]; rfl) (kf hc)
theorem g_icmp_le {x y : Int32} {off : Int} (t : Nat) (hF : sFk k pc = some (.if_icmp .le off)) (ht : sTgt pc off = some t) (kt : x ≤ y → sGo X k d t L st h Q) (kf : ¬ x ≤ y → sGo X k d (pc + 3) L st h Q) : sGo X k d pc L (.int y :: .int x :: st) h Q := by
  by_cases hc : x ≤ y
  · exact go_jmp hF rfl (by show sIf pc off (sC2 .le x y) st = _; unfold sIf; rw [ht, show sC2 .le x y = true from decide_eq_true hc]; rfl) (kt hc)
  · exact go_jmp hF rfl (by show sIf pc off (sC2 .le x y) st = _; unfold sIf; rw [ht, show sC2 .le x y = false from decide_eq_false hc]; rfl) (kf hc)
theorem g_if_le {x : Int32} {off : Int} (t : Nat) (hF : sFk k pc = some (.ifCond .le off)) (ht : sTgt pc off = some t) (kt : x ≤ 0 → sGo X k d t L st h Q) (kf : ¬ x ≤ 0 → sGo X k d (pc + 3) L st h Q) : sGo X k d pc L (.int x :: st) h Q := by
  by_cases hc : x ≤ 0
  · exact go_jmp hF rfl (by show sIf pc off (sC2 .le x 0) st = _; unfold sIf; rw [ht, show sC2 .le x 0 = true from decide_eq_true hc]; rfl) (kt hc)
  · exact go_jmp hF rfl (by show sIf pc off (sC2 .le x 0) st = _; unfold sIf; rw [ht, show sC2 .le x 0 = false from decide_eq_false hc]; rfl) (kf hc)
theorem g_goto {off : Int} (t : Nat) (hF : sFk k pc = some (.goto off)) (ht : sTgt pc off = some t) (g : sGo X k d t L st h Q) : sGo X k d pc L st h Q := go_jmp hF rfl (by show (sTgt pc off).map _ = _; rw [ht]; rfl) g
theorem g_ifnull {off : Int} {a : Nat} (t : Nat) (hF : sFk k pc = some (.ifnull off)) (ht : sTgt pc off = some t) (g : sGo X k d (pc + 3) L st h Q) : sGo X k d pc L (.ref a :: st) h Q := go_jmp hF rfl (by show sIf pc off false st = _; unfold sIf; rw [ht]; rfl) g
theorem g_ifnullN {off : Int} (t : Nat) (hF : sFk k pc = some (.ifnull off)) (ht : sTgt pc off = some t) (g : sGo X k d t L st h Q) : sGo X k d pc L (.null :: st) h Q := go_jmp hF rfl (by show sIf pc off true st = _; unfold sIf; rw [ht]; rfl) g
theorem g_getfield {j a ci : Nat} {fs : List Value} {v : Value} (hF : sFk k pc = some (.getfield j)) (ha : h[a]? = some (.inr (ci, fs))) (hg : sGrp ci = j / 64) (hv : fs[j % 64]? = some v) (g : sGo X k d (pc + 3) L (v :: st) h Q) : sGo X k d pc L (.ref a :: st) h Q := go_heap hF rfl (by cases X <;> rfl) (by show sGetF j (.ref a :: st) h = _; unfold sGetF; dsimp only; rw [ha]; dsimp only; rw [if_pos hg, hv]) g
theorem g_putfield {j a ci : Nat} {fs : List Value} {v : Value} {h1 : sHp} (hF : sFk k pc = some (.putfield j)) (ha : h[a]? = some (.inr (ci, fs))) (hg : sGrp ci = j / 64) (hl : j % 64 < fs.length) (hv : sFit (sTy ci (j % 64)) v = true) (he : h.set a (.inr (ci, fs.set (j % 64) v)) = h1) (g : sGo X k d (pc + 3) L st h1 Q) : sGo X k d pc L (v :: .ref a :: st) h Q := go_heap hF rfl (by cases X <;> rfl) (by show sPutF j (v :: .ref a :: st) h = _; unfold sPutF; dsimp only; rw [ha]; dsimp only; rw [if_pos ⟨hg, hl, hv⟩, he]) g
theorem g_new {j : Nat} (hF : sFk k pc = some (.new j)) (hj : j < 13) (g : sGo X k d (pc + 3) L (.ref h.length :: st) (h ++ [.inr (j, sDef j)]) Q) : sGo X k d pc L st h Q := go_heap hF rfl (by cases X <;> rfl) (by show sNew j st h = _; unfold sNew; rw [if_pos hj]) g
theorem g_newarray_int {n : Int32} (hF : sFk k pc = some (.newarray .int)) (hn : ¬ (n < 0 ∨ 100000 < n.toNatClampNeg)) (g : sGo X k d (pc + 2) L (.ref h.length :: st) (h ++ [.inl (0, n.toNatClampNeg, .inl (fun _ => 0))]) Q) : sGo X k d pc L (.int n :: st) h Q := go_heap hF rfl (by cases X <;> rfl) (by show sNewA .int (.int n :: st) h = _; unfold sNewA; dsimp only; rw [if_neg hn]) g
theorem g_newarray_long {n : Int32} (hF : sFk k pc = some (.newarray .long)) (hn : ¬ (n < 0 ∨ 100000 < n.toNatClampNeg)) (g : sGo X k d (pc + 2) L (.ref h.length :: st) (h ++ [.inl (1, n.toNatClampNeg, .inr (.inl (fun _ => 0)))]) Q) : sGo X k d pc L (.int n :: st) h Q := go_heap hF rfl (by cases X <;> rfl) (by show sNewA .long (.int n :: st) h = _; unfold sNewA; dsimp only; rw [if_neg hn]) g
theorem g_newarray_bool {n : Int32} (hF : sFk k pc = some (.newarray .boolean)) (hn : ¬ (n < 0 ∨ 100000 < n.toNatClampNeg)) (g : sGo X k d (pc + 2) L (.ref h.length :: st) (h ++ [.inl (2, n.toNatClampNeg, .inl (fun _ => 0))]) Q) : sGo X k d pc L (.int n :: st) h Q := go_heap hF rfl (by cases X <;> rfl) (by show sNewA .boolean (.int n :: st) h = _; unfold sNewA; dsimp only; rw [if_neg hn]) g
theorem g_anewarray {j : Nat} {n : Int32} (hF : sFk k pc = some (.anewarray j)) (hn : ¬ (n < 0 ∨ 100000 < n.toNatClampNeg ∨ ¬ (j = 3 ∨ j = 4))) (g : sGo X k d (pc + 3) L (.ref h.length :: st) (h ++ [.inl (j, n.toNatClampNeg, .inr (.inr (.inr (.inr (fun _ => none)))))]) Q) : sGo X k d pc L (.int n :: st) h Q := go_heap hF rfl (by cases X <;> rfl) (by show sNewQ j (.int n :: st) h = _; unfold sNewQ; dsimp only; rw [if_neg hn]) g
theorem g_multianewarray {j j2 : Nat} (hF : sFk k pc = some (.multianewarray j j2)) (g : sGo X k d (pc + 4) L (.ref h.length :: st) (h ++ (.inl (5, 5, .inr (.inr (.inr (.inr (fun j => if j < 5 then some (h.length + 1 + j) else none))))) :: List.replicate 5 (.inl (0, 6, .inl (fun _ => 0))))) Q) : sGo X k d pc L (.int 6 :: .int 5 :: st) h Q := go_heap hF rfl (by cases X <;> rfl) (by show sNewM (.int 6 :: .int 5 :: st) h = _; unfold sNewM; dsimp only; rw [if_pos ⟨rfl, rfl⟩]) g
theorem g_ldc2_w {j : Nat} (hF : sFk k pc = some (.ldc2_w j)) (g : sGo X k d (pc + 3) L (.long (Int64.ofNat j) :: st) h Q) : sGo X k d pc L st h Q := go_heap hF rfl (by cases X <;> rfl) rfl g
theorem g_ldc {j : Nat} (hj : j < 4294967296) (hF : sFk k pc = some (.ldc j)) (g : sGo X k d (pc + 2) L (.int (Int32.ofNat j) :: st) h Q) : sGo X k d pc L st h Q := go_heap hF rfl (by cases X <;> rfl) (if_pos hj) g
theorem g_ldc_w {j : Nat} (hF : sFk k pc = some (.ldc_w j)) (g : sGo X k d (pc + 3) L (.int (Int32.ofNat j) :: st) h Q) : sGo X k d pc L st h Q := go_heap hF rfl (by cases X <;> rfl) rfl g
theorem g_iaload {a n : Nat} {i : Int32} {f : Nat → Int32} (hF : sFk k pc = some (.iaload)) (ha : h[a]? = some (.inl (0, n, .inl f))) (hi : ¬ (i < 0 ∨ n ≤ i.toNatClampNeg)) (g : sGo none k d (pc + 1) L (.int (f i.toNatClampNeg) :: st) h Q) : sGo none k d pc L (.int i :: .ref a :: st) h Q := go_heap hF rfl rfl (by show sLdAI 0 (.int i :: .ref a :: st) h = _; unfold sLdAI; dsimp only; rw [ha]; dsimp only; rw [if_pos ⟨rfl, hi⟩]) g
theorem g_baload {a n : Nat} {i : Int32} {f : Nat → Int32} (hF : sFk k pc = some (.baload)) (ha : h[a]? = some (.inl (2, n, .inl f))) (hi : ¬ (i < 0 ∨ n ≤ i.toNatClampNeg)) (g : sGo none k d (pc + 1) L (.int (f i.toNatClampNeg) :: st) h Q) : sGo none k d pc L (.int i :: .ref a :: st) h Q := go_heap hF rfl rfl (by show sLdAI 2 (.int i :: .ref a :: st) h = _; unfold sLdAI; dsimp only; rw [ha]; dsimp only; rw [if_pos ⟨rfl, hi⟩]) g
theorem g_laload {a n : Nat} {i : Int32} {f : Nat → Int64} (hF : sFk k pc = some (.laload)) (ha : h[a]? = some (.inl (1, n, .inr (.inl f)))) (hi : ¬ (i < 0 ∨ n ≤ i.toNatClampNeg)) (g : sGo none k d (pc + 1) L (.long (f i.toNatClampNeg) :: st) h Q) : sGo none k d pc L (.int i :: .ref a :: st) h Q := go_heap hF rfl rfl (by show sLdAL (.int i :: .ref a :: st) h = _; unfold sLdAL; dsimp only; rw [ha]; dsimp only; rw [if_pos ⟨rfl, hi⟩]) g
theorem g_aaload {a n t : Nat} {i : Int32} {f : Nat → Option Nat} (hF : sFk k pc = some .aaload) (ha : h[a]? = some (.inl (t, n, .inr (.inr (.inr (.inr f)))))) (ht : t = 3 ∨ t = 4 ∨ t = 5) (hi : ¬ (i < 0 ∨ n ≤ i.toNatClampNeg)) (g : sGo none k d (pc + 1) L (va_rf (f i.toNatClampNeg) :: st) h Q) : sGo none k d pc L (.int i :: .ref a :: st) h Q := go_heap hF rfl rfl (by show sLdAA (.int i :: .ref a :: st) h = _; unfold sLdAA; dsimp only; rw [ha]; dsimp only; rw [if_pos ⟨ht, hi⟩]) g
theorem g_iastore {a n : Nat} {i x : Int32} {f : Nat → Int32} {h1 : sHp} (hF : sFk k pc = some .iastore) (ha : h[a]? = some (.inl (0, n, .inl f))) (hi : ¬ (i < 0 ∨ n ≤ i.toNatClampNeg)) (he : h.set a (.inl (0, n, .inl (upd f i.toNatClampNeg x))) = h1) (g : sGo X k d (pc + 1) L st h1 Q) : sGo X k d pc L (.int x :: .int i :: .ref a :: st) h Q := go_heap hF rfl (by cases X <;> rfl) (by show sStAI (.int x :: .int i :: .ref a :: st) h = _; unfold sStAI; dsimp only; rw [ha]; dsimp only; rw [if_pos ⟨rfl, hi⟩, he]) g
theorem g_bastore {a n : Nat} {i x : Int32} {f : Nat → Int32} {h1 : sHp} (hF : sFk k pc = some .bastore) (ha : h[a]? = some (.inl (2, n, .inl f))) (hx : x = 0 ∨ x = 1) (hi : ¬ (i < 0 ∨ n ≤ i.toNatClampNeg)) (he : h.set a (.inl (2, n, .inl (upd f i.toNatClampNeg x))) = h1) (g : sGo X k d (pc + 1) L st h1 Q) : sGo X k d pc L (.int x :: .int i :: .ref a :: st) h Q := go_heap hF rfl (by cases X <;> rfl) (by show sStAZ (.int x :: .int i :: .ref a :: st) h = _; unfold sStAZ; dsimp only; rw [ha]; dsimp only; rw [if_pos ⟨rfl, hx, hi⟩, he]) g
theorem g_lastore {a n : Nat} {i : Int32} {x : Int64} {f : Nat → Int64} {h1 : sHp} (hF : sFk k pc = some .lastore) (ha : h[a]? = some (.inl (1, n, .inr (.inl f)))) (hi : ¬ (i < 0 ∨ n ≤ i.toNatClampNeg)) (he : h.set a (.inl (1, n, .inr (.inl (vp_updL f i.toNatClampNeg x)))) = h1) (g : sGo X k d (pc + 1) L st h1 Q) : sGo X k d pc L (.long x :: .int i :: .ref a :: st) h Q := go_heap hF rfl (by cases X <;> rfl) (by show sStAL (.long x :: .int i :: .ref a :: st) h = _; unfold sStAL; dsimp only; rw [ha]; dsimp only; rw [if_pos ⟨rfl, hi⟩, he]) g
theorem g_aastore {a n t q : Nat} {i : Int32} {f : Nat → Option Nat} {h1 : sHp} (hF : sFk k pc = some .aastore) (ha : h[a]? = some (.inl (t, n, .inr (.inr (.inr (.inr f)))))) (hq : sIsObj t h[q]? = true) (hi : ¬ (i < 0 ∨ n ≤ i.toNatClampNeg)) (he : h.set a (.inl (t, n, .inr (.inr (.inr (.inr (va_up f i.toNatClampNeg (some q))))))) = h1) (g : sGo X k d (pc + 1) L st h1 Q) : sGo X k d pc L (.ref q :: .int i :: .ref a :: st) h Q := go_heap hF rfl (by cases X <;> rfl) (by show sStAA (.ref q :: .int i :: .ref a :: st) h = _; unfold sStAA; dsimp only; rw [ha]; dsimp only; rw [if_pos ⟨hq, hi⟩, he]) g
theorem g_aastoreN {a n t : Nat} {i : Int32} {f : Nat → Option Nat} {h1 : sHp} (hF : sFk k pc = some .aastore) (ha : h[a]? = some (.inl (t, n, .inr (.inr (.inr (.inr f)))))) (ht : t = 3 ∨ t = 4) (hi : ¬ (i < 0 ∨ n ≤ i.toNatClampNeg)) (he : h.set a (.inl (t, n, .inr (.inr (.inr (.inr (va_up f i.toNatClampNeg none)))))) = h1) (g : sGo X k d (pc + 1) L st h1 Q) : sGo X k d pc L (.null :: .int i :: .ref a :: st) h Q := go_heap hF rfl (by cases X <;> rfl) (by show sStAA (.null :: .int i :: .ref a :: st) h = _; unfold sStAA; dsimp only; rw [ha]; dsimp only; rw [if_pos ⟨ht, hi⟩, he]) g
theorem g_alen {a n t : Nat} {dd : (Nat → Int32) ⊕ (Nat → Int64) ⊕ (Nat → UInt32) ⊕ (Nat → UInt64) ⊕ (Nat → Option Nat)} (hF : sFk k pc = some .arraylength) (ha : h[a]? = some (.inl (t, n, dd))) (ht : t < 6) (g : sGo none k d (pc + 1) L (.int (Int32.ofNat n) :: st) h Q) : sGo none k d pc L (.ref a :: st) h Q := go_heap hF rfl rfl (by show sALen (.ref a :: st) h = _; unfold sALen; dsimp only; rw [ha]; dsimp only; rw [if_pos ht]) g
theorem g_ireturn {x : Int32} {ty : FieldType} (hF : sFk k pc = some .ireturn) (hR : sRk k = some (some ty)) (hn : narrow ty (.int x) = .int x) (hQ : Q (some (.int x)) h) : sGo X k d pc L [.int x] h Q := go_ret hF rfl hR (by show (if _ then _ else _) = _; rw [if_pos hn]) hQ
theorem g_lreturn {x : Int64} (hF : sFk k pc = some .lreturn) (hR : sRk k = some (some .long)) (hQ : Q (some (.long x)) h) : sGo X k d pc L [.long x] h Q := go_ret hF rfl hR rfl hQ
theorem g_areturn {a : Nat} {C : String} (hF : sFk k pc = some .areturn) (hR : sRk k = some (some (.object C))) (hQ : Q (some (.ref a)) h) : sGo X k d pc L [.ref a] h Q := go_ret hF rfl hR rfl hQ
theorem g_return (hF : sFk k pc = some .return_) (hR : sRk k = some none) (hQ : Q none h) : sGo X k d pc L [] h Q := go_ret hF rfl hR rfl hQ
theorem g_objinit {a : Nat} (hF : sFk k pc = some (.invokespecial 2000)) (hcat : ((Value.ref a :: st).map (fun v => v.category)).sum ≤ 10) (g : sGo X k d (pc + 3) L st h Q) : sGo X k d pc L (.ref a :: st) h Q := go_spec hF rfl hcat rfl g
theorem g_max {x y : Int32} (hF : sFk k pc = some (.invokestatic 1000)) (hcat : ((Value.int y :: Value.int x :: st).map (fun v => v.category)).sum ≤ 10) (g : sGo X k d (pc + 3) L (.int (if x < y then y else x) :: st) h Q) : sGo X k d pc L (.int y :: .int x :: st) h Q := go_spec hF rfl hcat rfl g
theorem g_min {x y : Int32} (hF : sFk k pc = some (.invokestatic 1001)) (hcat : ((Value.int y :: Value.int x :: st).map (fun v => v.category)).sum ≤ 10) (g : sGo X k d (pc + 3) L (.int (if y < x then y else x) :: st) h Q) : sGo X k d pc L (.int y :: .int x :: st) h Q := go_spec hF rfl hcat rfl g
theorem g_abs {x : Int32} (hF : sFk k pc = some (.invokestatic 1002)) (hcat : ((Value.int x :: st).map (fun v => v.category)).sum ≤ 10) (g : sGo X k d (pc + 3) L (.int (if 0 ≤ x then x else 0 - x) :: st) h Q) : sGo X k d pc L (.int x :: st) h Q := go_spec hF rfl hcat rfl g
theorem g_static0 {k1 : Nat} {Qc : Option Value → sHp → Prop} (hF : sFk k pc = some (.invokestatic k1)) (hk : k1 < 1000) (hn : sNA k1 = 0) (hcat : (st.map (fun v => v.category)).sum ≤ 8) (hD : sDo d k1 [] h Qc) (g : ∀ (r : Option Value) (h1 : sHp), Qc r h1 → sGo X k d (pc + 3) L (r.toList ++ st) h1 Q) : sGo X k d pc L (st) h Q := go_call hF (if_pos hk) (by show (sPop (sNA k1) (st)).map _ = _; rw [(show sPop (sNA k1) (st) = some ([], st) by rw [hn]; unfold sPop; rw [if_pos (by first | exact Nat.zero_le _ | (simp only [List.length_cons]; omega))]; rfl)]; rfl) hcat hD g
theorem g_init0 {k1 : Nat} {a : Nat} {x : Nat × List Value} {Qc : Option Value → sHp → Prop} (hF : sFk k pc = some (.invokespecial k1)) (hk : k1 < 1000) (hn : sNA k1 = 0) (ha : h[a]? = some (.inr x)) (hcat : (st.map (fun v => v.category)).sum ≤ 8) (hD : sDo d k1 (.ref a :: []) h Qc) (g : ∀ (r : Option Value) (h1 : sHp), Qc r h1 → sGo X k d (pc + 3) L (r.toList ++ st) h1 Q) : sGo X k d pc L (.ref a :: st) h Q := go_call hF (if_pos hk) (by show (sPop (sNA k1) (.ref a :: st)).bind _ = _; rw [(show sPop (sNA k1) (.ref a :: st) = some ([], .ref a :: st) by rw [hn]; unfold sPop; rw [if_pos (by first | exact Nat.zero_le _ | (simp only [List.length_cons]; omega))]; rfl), Option.bind_some]; dsimp only; rw [ha]) hcat hD g
theorem g_virt0 {k1 : Nat} {a : Nat} {ci : Nat} {fs : List Value} {Qc : Option Value → sHp → Prop} (hF : sFk k pc = some (.invokevirtual k1)) (hk : k1 < 1000) (hn : sNA k1 = 0) (ha : h[a]? = some (.inr (ci, fs))) (ho : sOwn k1 = ci) (hcat : (st.map (fun v => v.category)).sum ≤ 8) (hD : sDo d k1 (.ref a :: []) h Qc) (g : ∀ (r : Option Value) (h1 : sHp), Qc r h1 → sGo X k d (pc + 3) L (r.toList ++ st) h1 Q) : sGo X k d pc L (.ref a :: st) h Q := go_call hF rfl (by show (if k1 < 1000 then (sPop (sNA k1) (.ref a :: st)).bind _ else _) = _; rw [if_pos hk, (show sPop (sNA k1) (.ref a :: st) = some ([], .ref a :: st) by rw [hn]; unfold sPop; rw [if_pos (by first | exact Nat.zero_le _ | (simp only [List.length_cons]; omega))]; rfl), Option.bind_some]; dsimp only; rw [ha]; dsimp only; rw [if_pos ho.symm]) hcat hD g
theorem g_static1 {k1 : Nat} {v0 : Value} {Qc : Option Value → sHp → Prop} (hF : sFk k pc = some (.invokestatic k1)) (hk : k1 < 1000) (hn : sNA k1 = 1) (hcat : (st.map (fun v => v.category)).sum ≤ 8) (hD : sDo d k1 [v0] h Qc) (g : ∀ (r : Option Value) (h1 : sHp), Qc r h1 → sGo X k d (pc + 3) L (r.toList ++ st) h1 Q) : sGo X k d pc L (v0 :: st) h Q := go_call hF (if_pos hk) (by show (sPop (sNA k1) (v0 :: st)).map _ = _; rw [(show sPop (sNA k1) (v0 :: st) = some ([v0], st) by rw [hn]; unfold sPop; rw [if_pos (by first | exact Nat.zero_le _ | (simp only [List.length_cons]; omega))]; rfl)]; rfl) hcat hD g
theorem g_init1 {k1 : Nat} {a : Nat} {v0 : Value} {x : Nat × List Value} {Qc : Option Value → sHp → Prop} (hF : sFk k pc = some (.invokespecial k1)) (hk : k1 < 1000) (hn : sNA k1 = 1) (ha : h[a]? = some (.inr x)) (hcat : (st.map (fun v => v.category)).sum ≤ 8) (hD : sDo d k1 (.ref a :: [v0]) h Qc) (g : ∀ (r : Option Value) (h1 : sHp), Qc r h1 → sGo X k d (pc + 3) L (r.toList ++ st) h1 Q) : sGo X k d pc L (v0 :: .ref a :: st) h Q := go_call hF (if_pos hk) (by show (sPop (sNA k1) (v0 :: .ref a :: st)).bind _ = _; rw [(show sPop (sNA k1) (v0 :: .ref a :: st) = some ([v0], .ref a :: st) by rw [hn]; unfold sPop; rw [if_pos (by first | exact Nat.zero_le _ | (simp only [List.length_cons]; omega))]; rfl), Option.bind_some]; dsimp only; rw [ha]) hcat hD g
theorem g_virt1 {k1 : Nat} {a : Nat} {v0 : Value} {ci : Nat} {fs : List Value} {Qc : Option Value → sHp → Prop} (hF : sFk k pc = some (.invokevirtual k1)) (hk : k1 < 1000) (hn : sNA k1 = 1) (ha : h[a]? = some (.inr (ci, fs))) (ho : sOwn k1 = ci) (hcat : (st.map (fun v => v.category)).sum ≤ 8) (hD : sDo d k1 (.ref a :: [v0]) h Qc) (g : ∀ (r : Option Value) (h1 : sHp), Qc r h1 → sGo X k d (pc + 3) L (r.toList ++ st) h1 Q) : sGo X k d pc L (v0 :: .ref a :: st) h Q := go_call hF rfl (by show (if k1 < 1000 then (sPop (sNA k1) (v0 :: .ref a :: st)).bind _ else _) = _; rw [if_pos hk, (show sPop (sNA k1) (v0 :: .ref a :: st) = some ([v0], .ref a :: st) by rw [hn]; unfold sPop; rw [if_pos (by first | exact Nat.zero_le _ | (simp only [List.length_cons]; omega))]; rfl), Option.bind_some]; dsimp only; rw [ha]; dsimp only; rw [if_pos ho.symm]) hcat hD g
theorem g_static2 {k1 : Nat} {v0 v1 : Value} {Qc : Option Value → sHp → Prop} (hF : sFk k pc = some (.invokestatic k1)) (hk : k1 < 1000) (hn : sNA k1 = 2) (hcat : (st.map (fun v => v.category)).sum ≤ 8) (hD : sDo d k1 [v0, v1] h Qc) (g : ∀ (r : Option Value) (h1 : sHp), Qc r h1 → sGo X k d (pc + 3) L (r.toList ++ st) h1 Q) : sGo X k d pc L (v1 :: v0 :: st) h Q := go_call hF (if_pos hk) (by show (sPop (sNA k1) (v1 :: v0 :: st)).map _ = _; rw [(show sPop (sNA k1) (v1 :: v0 :: st) = some ([v0, v1], st) by rw [hn]; unfold sPop; rw [if_pos (by first | exact Nat.zero_le _ | (simp only [List.length_cons]; omega))]; rfl)]; rfl) hcat hD g
theorem g_init2 {k1 : Nat} {a : Nat} {v0 v1 : Value} {x : Nat × List Value} {Qc : Option Value → sHp → Prop} (hF : sFk k pc = some (.invokespecial k1)) (hk : k1 < 1000) (hn : sNA k1 = 2) (ha : h[a]? = some (.inr x)) (hcat : (st.map (fun v => v.category)).sum ≤ 8) (hD : sDo d k1 (.ref a :: [v0, v1]) h Qc) (g : ∀ (r : Option Value) (h1 : sHp), Qc r h1 → sGo X k d (pc + 3) L (r.toList ++ st) h1 Q) : sGo X k d pc L (v1 :: v0 :: .ref a :: st) h Q := go_call hF (if_pos hk) (by show (sPop (sNA k1) (v1 :: v0 :: .ref a :: st)).bind _ = _; rw [(show sPop (sNA k1) (v1 :: v0 :: .ref a :: st) = some ([v0, v1], .ref a :: st) by rw [hn]; unfold sPop; rw [if_pos (by first | exact Nat.zero_le _ | (simp only [List.length_cons]; omega))]; rfl), Option.bind_some]; dsimp only; rw [ha]) hcat hD g
theorem g_virt2 {k1 : Nat} {a : Nat} {v0 v1 : Value} {ci : Nat} {fs : List Value} {Qc : Option Value → sHp → Prop} (hF : sFk k pc = some (.invokevirtual k1)) (hk : k1 < 1000) (hn : sNA k1 = 2) (ha : h[a]? = some (.inr (ci, fs))) (ho : sOwn k1 = ci) (hcat : (st.map (fun v => v.category)).sum ≤ 8) (hD : sDo d k1 (.ref a :: [v0, v1]) h Qc) (g : ∀ (r : Option Value) (h1 : sHp), Qc r h1 → sGo X k d (pc + 3) L (r.toList ++ st) h1 Q) : sGo X k d pc L (v1 :: v0 :: .ref a :: st) h Q := go_call hF rfl (by show (if k1 < 1000 then (sPop (sNA k1) (v1 :: v0 :: .ref a :: st)).bind _ else _) = _; rw [if_pos hk, (show sPop (sNA k1) (v1 :: v0 :: .ref a :: st) = some ([v0, v1], .ref a :: st) by rw [hn]; unfold sPop; rw [if_pos (by first | exact Nat.zero_le _ | (simp only [List.length_cons]; omega))]; rfl), Option.bind_some]; dsimp only; rw [ha]; dsimp only; rw [if_pos ho.symm]) hcat hD g
theorem g_static3 {k1 : Nat} {v0 v1 v2 : Value} {Qc : Option Value → sHp → Prop} (hF : sFk k pc = some (.invokestatic k1)) (hk : k1 < 1000) (hn : sNA k1 = 3) (hcat : (st.map (fun v => v.category)).sum ≤ 8) (hD : sDo d k1 [v0, v1, v2] h Qc) (g : ∀ (r : Option Value) (h1 : sHp), Qc r h1 → sGo X k d (pc + 3) L (r.toList ++ st) h1 Q) : sGo X k d pc L (v2 :: v1 :: v0 :: st) h Q := go_call hF (if_pos hk) (by show (sPop (sNA k1) (v2 :: v1 :: v0 :: st)).map _ = _; rw [(show sPop (sNA k1) (v2 :: v1 :: v0 :: st) = some ([v0, v1, v2], st) by rw [hn]; unfold sPop; rw [if_pos (by first | exact Nat.zero_le _ | (simp only [List.length_cons]; omega))]; rfl)]; rfl) hcat hD g
theorem g_init3 {k1 : Nat} {a : Nat} {v0 v1 v2 : Value} {x : Nat × List Value} {Qc : Option Value → sHp → Prop} (hF : sFk k pc = some (.invokespecial k1)) (hk : k1 < 1000) (hn : sNA k1 = 3) (ha : h[a]? = some (.inr x)) (hcat : (st.map (fun v => v.category)).sum ≤ 8) (hD : sDo d k1 (.ref a :: [v0, v1, v2]) h Qc) (g : ∀ (r : Option Value) (h1 : sHp), Qc r h1 → sGo X k d (pc + 3) L (r.toList ++ st) h1 Q) : sGo X k d pc L (v2 :: v1 :: v0 :: .ref a :: st) h Q := go_call hF (if_pos hk) (by show (sPop (sNA k1) (v2 :: v1 :: v0 :: .ref a :: st)).bind _ = _; rw [(show sPop (sNA k1) (v2 :: v1 :: v0 :: .ref a :: st) = some ([v0, v1, v2], .ref a :: st) by rw [hn]; unfold sPop; rw [if_pos (by first | exact Nat.zero_le _ | (simp only [List.length_cons]; omega))]; rfl), Option.bind_some]; dsimp only; rw [ha]) hcat hD g
theorem g_virt3 {k1 : Nat} {a : Nat} {v0 v1 v2 : Value} {ci : Nat} {fs : List Value} {Qc : Option Value → sHp → Prop} (hF : sFk k pc = some (.invokevirtual k1)) (hk : k1 < 1000) (hn : sNA k1 = 3) (ha : h[a]? = some (.inr (ci, fs))) (ho : sOwn k1 = ci) (hcat : (st.map (fun v => v.category)).sum ≤ 8) (hD : sDo d k1 (.ref a :: [v0, v1, v2]) h Qc) (g : ∀ (r : Option Value) (h1 : sHp), Qc r h1 → sGo X k d (pc + 3) L (r.toList ++ st) h1 Q) : sGo X k d pc L (v2 :: v1 :: v0 :: .ref a :: st) h Q := go_call hF rfl (by show (if k1 < 1000 then (sPop (sNA k1) (v2 :: v1 :: v0 :: .ref a :: st)).bind _ else _) = _; rw [if_pos hk, (show sPop (sNA k1) (v2 :: v1 :: v0 :: .ref a :: st) = some ([v0, v1, v2], .ref a :: st) by rw [hn]; unfold sPop; rw [if_pos (by first | exact Nat.zero_le _ | (simp only [List.length_cons]; omega))]; rfl), Option.bind_some]; dsimp only; rw [ha]; dsimp only; rw [if_pos ho.symm]) hcat hD g
theorem g_static4 {k1 : Nat} {v0 v1 v2 v3 : Value} {Qc : Option Value → sHp → Prop} (hF : sFk k pc = some (.invokestatic k1)) (hk : k1 < 1000) (hn : sNA k1 = 4) (hcat : (st.map (fun v => v.category)).sum ≤ 8) (hD : sDo d k1 [v0, v1, v2, v3] h Qc) (g : ∀ (r : Option Value) (h1 : sHp), Qc r h1 → sGo X k d (pc + 3) L (r.toList ++ st) h1 Q) : sGo X k d pc L (v3 :: v2 :: v1 :: v0 :: st) h Q := go_call hF (if_pos hk) (by show (sPop (sNA k1) (v3 :: v2 :: v1 :: v0 :: st)).map _ = _; rw [(show sPop (sNA k1) (v3 :: v2 :: v1 :: v0 :: st) = some ([v0, v1, v2, v3], st) by rw [hn]; unfold sPop; rw [if_pos (by first | exact Nat.zero_le _ | (simp only [List.length_cons]; omega))]; rfl)]; rfl) hcat hD g
theorem g_init4 {k1 : Nat} {a : Nat} {v0 v1 v2 v3 : Value} {x : Nat × List Value} {Qc : Option Value → sHp → Prop} (hF : sFk k pc = some (.invokespecial k1)) (hk : k1 < 1000) (hn : sNA k1 = 4) (ha : h[a]? = some (.inr x)) (hcat : (st.map (fun v => v.category)).sum ≤ 8) (hD : sDo d k1 (.ref a :: [v0, v1, v2, v3]) h Qc) (g : ∀ (r : Option Value) (h1 : sHp), Qc r h1 → sGo X k d (pc + 3) L (r.toList ++ st) h1 Q) : sGo X k d pc L (v3 :: v2 :: v1 :: v0 :: .ref a :: st) h Q := go_call hF (if_pos hk) (by show (sPop (sNA k1) (v3 :: v2 :: v1 :: v0 :: .ref a :: st)).bind _ = _; rw [(show sPop (sNA k1) (v3 :: v2 :: v1 :: v0 :: .ref a :: st) = some ([v0, v1, v2, v3], .ref a :: st) by rw [hn]; unfold sPop; rw [if_pos (by first | exact Nat.zero_le _ | (simp only [List.length_cons]; omega))]; rfl), Option.bind_some]; dsimp only; rw [ha]) hcat hD g
theorem g_virt4 {k1 : Nat} {a : Nat} {v0 v1 v2 v3 : Value} {ci : Nat} {fs : List Value} {Qc : Option Value → sHp → Prop} (hF : sFk k pc = some (.invokevirtual k1)) (hk : k1 < 1000) (hn : sNA k1 = 4) (ha : h[a]? = some (.inr (ci, fs))) (ho : sOwn k1 = ci) (hcat : (st.map (fun v => v.category)).sum ≤ 8) (hD : sDo d k1 (.ref a :: [v0, v1, v2, v3]) h Qc) (g : ∀ (r : Option Value) (h1 : sHp), Qc r h1 → sGo X k d (pc + 3) L (r.toList ++ st) h1 Q) : sGo X k d pc L (v3 :: v2 :: v1 :: v0 :: .ref a :: st) h Q := go_call hF rfl (by show (if k1 < 1000 then (sPop (sNA k1) (v3 :: v2 :: v1 :: v0 :: .ref a :: st)).bind _ else _) = _; rw [if_pos hk, (show sPop (sNA k1) (v3 :: v2 :: v1 :: v0 :: .ref a :: st) = some ([v0, v1, v2, v3], .ref a :: st) by rw [hn]; unfold sPop; rw [if_pos (by first | exact Nat.zero_le _ | (simp only [List.length_cons]; omega))]; rfl), Option.bind_some]; dsimp only; rw [ha]; dsimp only; rw [if_pos ho.symm]) hcat hD g
theorem g_static5 {k1 : Nat} {v0 v1 v2 v3 v4 : Value} {Qc : Option Value → sHp → Prop} (hF : sFk k pc = some (.invokestatic k1)) (hk : k1 < 1000) (hn : sNA k1 = 5) (hcat : (st.map (fun v => v.category)).sum ≤ 8) (hD : sDo d k1 [v0, v1, v2, v3, v4] h Qc) (g : ∀ (r : Option Value) (h1 : sHp), Qc r h1 → sGo X k d (pc + 3) L (r.toList ++ st) h1 Q) : sGo X k d pc L (v4 :: v3 :: v2 :: v1 :: v0 :: st) h Q := go_call hF (if_pos hk) (by show (sPop (sNA k1) (v4 :: v3 :: v2 :: v1 :: v0 :: st)).map _ = _; rw [(show sPop (sNA k1) (v4 :: v3 :: v2 :: v1 :: v0 :: st) = some ([v0, v1, v2, v3, v4], st) by rw [hn]; unfold sPop; rw [if_pos (by first | exact Nat.zero_le _ | (simp only [List.length_cons]; omega))]; rfl)]; rfl) hcat hD g
theorem g_init5 {k1 : Nat} {a : Nat} {v0 v1 v2 v3 v4 : Value} {x : Nat × List Value} {Qc : Option Value → sHp → Prop} (hF : sFk k pc = some (.invokespecial k1)) (hk : k1 < 1000) (hn : sNA k1 = 5) (ha : h[a]? = some (.inr x)) (hcat : (st.map (fun v => v.category)).sum ≤ 8) (hD : sDo d k1 (.ref a :: [v0, v1, v2, v3, v4]) h Qc) (g : ∀ (r : Option Value) (h1 : sHp), Qc r h1 → sGo X k d (pc + 3) L (r.toList ++ st) h1 Q) : sGo X k d pc L (v4 :: v3 :: v2 :: v1 :: v0 :: .ref a :: st) h Q := go_call hF (if_pos hk) (by show (sPop (sNA k1) (v4 :: v3 :: v2 :: v1 :: v0 :: .ref a :: st)).bind _ = _; rw [(show sPop (sNA k1) (v4 :: v3 :: v2 :: v1 :: v0 :: .ref a :: st) = some ([v0, v1, v2, v3, v4], .ref a :: st) by rw [hn]; unfold sPop; rw [if_pos (by first | exact Nat.zero_le _ | (simp only [List.length_cons]; omega))]; rfl), Option.bind_some]; dsimp only; rw [ha]) hcat hD g
theorem g_virt5 {k1 : Nat} {a : Nat} {v0 v1 v2 v3 v4 : Value} {ci : Nat} {fs : List Value} {Qc : Option Value → sHp → Prop} (hF : sFk k pc = some (.invokevirtual k1)) (hk : k1 < 1000) (hn : sNA k1 = 5) (ha : h[a]? = some (.inr (ci, fs))) (ho : sOwn k1 = ci) (hcat : (st.map (fun v => v.category)).sum ≤ 8) (hD : sDo d k1 (.ref a :: [v0, v1, v2, v3, v4]) h Qc) (g : ∀ (r : Option Value) (h1 : sHp), Qc r h1 → sGo X k d (pc + 3) L (r.toList ++ st) h1 Q) : sGo X k d pc L (v4 :: v3 :: v2 :: v1 :: v0 :: .ref a :: st) h Q := go_call hF rfl (by show (if k1 < 1000 then (sPop (sNA k1) (v4 :: v3 :: v2 :: v1 :: v0 :: .ref a :: st)).bind _ else _) = _; rw [if_pos hk, (show sPop (sNA k1) (v4 :: v3 :: v2 :: v1 :: v0 :: .ref a :: st) = some ([v0, v1, v2, v3, v4], .ref a :: st) by rw [hn]; unfold sPop; rw [if_pos (by first | exact Nat.zero_le _ | (simp only [List.length_cons]; omega))]; rfl), Option.bind_some]; dsimp only; rw [ha]; dsimp only; rw [if_pos ho.symm]) hcat hD g
theorem g_static6 {k1 : Nat} {v0 v1 v2 v3 v4 v5 : Value} {Qc : Option Value → sHp → Prop} (hF : sFk k pc = some (.invokestatic k1)) (hk : k1 < 1000) (hn : sNA k1 = 6) (hcat : (st.map (fun v => v.category)).sum ≤ 8) (hD : sDo d k1 [v0, v1, v2, v3, v4, v5] h Qc) (g : ∀ (r : Option Value) (h1 : sHp), Qc r h1 → sGo X k d (pc + 3) L (r.toList ++ st) h1 Q) : sGo X k d pc L (v5 :: v4 :: v3 :: v2 :: v1 :: v0 :: st) h Q := go_call hF (if_pos hk) (by show (sPop (sNA k1) (v5 :: v4 :: v3 :: v2 :: v1 :: v0 :: st)).map _ = _; rw [(show sPop (sNA k1) (v5 :: v4 :: v3 :: v2 :: v1 :: v0 :: st) = some ([v0, v1, v2, v3, v4, v5], st) by rw [hn]; unfold sPop; rw [if_pos (by first | exact Nat.zero_le _ | (simp only [List.length_cons]; omega))]; rfl)]; rfl) hcat hD g
theorem g_init6 {k1 : Nat} {a : Nat} {v0 v1 v2 v3 v4 v5 : Value} {x : Nat × List Value} {Qc : Option Value → sHp → Prop} (hF : sFk k pc = some (.invokespecial k1)) (hk : k1 < 1000) (hn : sNA k1 = 6) (ha : h[a]? = some (.inr x)) (hcat : (st.map (fun v => v.category)).sum ≤ 8) (hD : sDo d k1 (.ref a :: [v0, v1, v2, v3, v4, v5]) h Qc) (g : ∀ (r : Option Value) (h1 : sHp), Qc r h1 → sGo X k d (pc + 3) L (r.toList ++ st) h1 Q) : sGo X k d pc L (v5 :: v4 :: v3 :: v2 :: v1 :: v0 :: .ref a :: st) h Q := go_call hF (if_pos hk) (by show (sPop (sNA k1) (v5 :: v4 :: v3 :: v2 :: v1 :: v0 :: .ref a :: st)).bind _ = _; rw [(show sPop (sNA k1) (v5 :: v4 :: v3 :: v2 :: v1 :: v0 :: .ref a :: st) = some ([v0, v1, v2, v3, v4, v5], .ref a :: st) by rw [hn]; unfold sPop; rw [if_pos (by first | exact Nat.zero_le _ | (simp only [List.length_cons]; omega))]; rfl), Option.bind_some]; dsimp only; rw [ha]) hcat hD g
theorem g_virt6 {k1 : Nat} {a : Nat} {v0 v1 v2 v3 v4 v5 : Value} {ci : Nat} {fs : List Value} {Qc : Option Value → sHp → Prop} (hF : sFk k pc = some (.invokevirtual k1)) (hk : k1 < 1000) (hn : sNA k1 = 6) (ha : h[a]? = some (.inr (ci, fs))) (ho : sOwn k1 = ci) (hcat : (st.map (fun v => v.category)).sum ≤ 8) (hD : sDo d k1 (.ref a :: [v0, v1, v2, v3, v4, v5]) h Qc) (g : ∀ (r : Option Value) (h1 : sHp), Qc r h1 → sGo X k d (pc + 3) L (r.toList ++ st) h1 Q) : sGo X k d pc L (v5 :: v4 :: v3 :: v2 :: v1 :: v0 :: .ref a :: st) h Q := go_call hF rfl (by show (if k1 < 1000 then (sPop (sNA k1) (v5 :: v4 :: v3 :: v2 :: v1 :: v0 :: .ref a :: st)).bind _ else _) = _; rw [if_pos hk, (show sPop (sNA k1) (v5 :: v4 :: v3 :: v2 :: v1 :: v0 :: .ref a :: st) = some ([v0, v1, v2, v3, v4, v5], .ref a :: st) by rw [hn]; unfold sPop; rw [if_pos (by first | exact Nat.zero_le _ | (simp only [List.length_cons]; omega))]; rfl), Option.bind_some]; dsimp only; rw [ha]; dsimp only; rw [if_pos ho.symm]) hcat hD g
theorem g_fam {k1 a ci : Nat} {v0 : Value} {fs : List Value} {Qc : Option Value → sHp → Prop} (hF : sFk k pc = some (.invokevirtual k1)) (hk : ¬ k1 < 1000) (ha : h[a]? = some (.inr (ci, fs))) (hc : sGrp ci = 2 ∧ ci < 11) (hcat : (st.map (fun v => v.category)).sum ≤ 8) (hD : sDo d (sVt k1 ci) [.ref a, v0] h Qc) (g : ∀ (r : Option Value) (h1 : sHp), Qc r h1 → sGo X k d (pc + 3) L (r.toList ++ st) h1 Q) : sGo X k d pc L (v0 :: .ref a :: st) h Q := go_call hF rfl (by show (if k1 < 1000 then _ else (sPop (sVt k1 100) (v0 :: .ref a :: st)).bind _) = _; rw [if_neg hk, show sPop (sVt k1 100) (v0 :: .ref a :: st) = some ([v0], .ref a :: st) by (rw [show sVt k1 100 = 1 from rfl]; unfold sPop; rw [if_pos (by simp only [List.length_cons]; omega)]; rfl), Option.bind_some]; dsimp only; rw [ha]; dsimp only; rw [if_pos hc]) hcat hD g
end GO
