/-! ===== the second executor: cells ===== -/
def bOf (k : Nat) : List (Nat × bV) → Option bV
  | [] => none
  | e :: r => bif Nat.beq e.1 k then some e.2 else bOf k r
theorem bOf_mem {k : Nat} {v : bV} : ∀ {O : List (Nat × bV)}, bOf k O = some v → (k, v) ∈ O := by
  intro O
  induction O with
  | nil => intro h; cases h
  | cons e r ih =>
    intro h
    unfold bOf at h
    rw [aBq] at h
    by_cases he : e.1 = k
    · rw [decide_eq_true he] at h
      cases h
      rw [← he]
      exact List.mem_cons_self
    · rw [decide_eq_false he] at h
      exact List.mem_cons_of_mem _ (ih h)
/-- a list without some of its members, laid out anew -/
def bFil {α : Type} (p : α → Bool) : List α → (List α → Bool) → Bool
  | [], f => f []
  | a :: r, f => bif p a then bFil p r (fun l => f (a :: l)) else bFil p r f
theorem bFil_eq {α : Type} (p : α → Bool) : ∀ (l : List α) (f : List α → Bool), bFil p l f = f (l.filter p) := by
  intro l
  induction l with
  | nil => intro f; rfl
  | cons a r ih =>
    intro f
    unfold bFil
    rw [List.filter_cons, ih, ih]
    cases p a <;> rfl
def bSmN (a b : bN) : Bool := match a with
  | .inl i => (match b with
    | .inl j => Nat.beq i j
    | _ => false)
  | .inr c => (match b with
    | .inr d => decide (c = d)
    | _ => false)
theorem bSmN_ok {a b : bN} (h : bSmN a b = true) : a = b := by
  unfold bSmN at h
  split at h
  · split at h
    · rw [aBt h]
    · cases h
  · split at h
    · rw [of_decide_eq_true h]
    · cases h
def bAf (K : Nat) (a : bN) : List (Nat × bN × bV) → Option bV
  | [] => none
  | e :: r => bif Nat.beq e.1 K && bSmN e.2.1 a then some e.2.2 else bAf K a r
theorem bAf_mem {K : Nat} {a : bN} {v : bV} : ∀ {A : List (Nat × bN × bV)}, bAf K a A = some v → (K, a, v) ∈ A := by
  intro A
  induction A with
  | nil => intro h; cases h
  | cons e r ih =>
    intro h
    unfold bAf at h
    cases hb : (Nat.beq e.1 K && bSmN e.2.1 a) with
    | true =>
      rw [hb] at h
      cases h
      replace hb := aBa hb
      obtain ⟨h1, h2⟩ := hb
      obtain ⟨p, b, v⟩ := e
      have e1 := aBt h1
      have e2 := bSmN_ok h2
      dsimp only at e1 e2
      subst e1 e2
      exact List.mem_cons_self
    | false =>
      rw [hb] at h
      exact List.mem_cons_of_mem _ (ih h)
/-- the field's own type takes values of the type -/
def bFty (s : FieldType) (t : bTy) : Bool := match s with
  | .int => (match t with
    | .inl _ => true
    | _ => false)
  | .boolean => (match t with
    | .inl (lo, hi) => decide (0 ≤ lo) && decide (hi ≤ 1)
    | _ => false)
  | .long => (match t with
    | .inr (k, _) => Nat.beq k 0
    | _ => false)
  | .object _ => (match t with
    | .inr (k, _) => Nat.blt 0 k
    | _ => false)
  | .array _ => (match t with
    | .inr (k, _) => Nat.blt 0 k
    | _ => false)
  | _ => false
theorem b_bit {x : Int32} {lo hi : Int} (h1 : 0 ≤ lo) (h2 : hi ≤ 1) (h3 : lo ≤ x.toInt) (h4 : x.toInt ≤ hi) : x = 0 ∨ x = 1 := by
  have e0 : (0 : Int32).toInt = 0 := rfl
  have e1 : (1 : Int32).toInt = 1 := rfl
  by_cases h : x.toInt = 0
  · exact Or.inl (Int32.toInt_inj.mp (by rw [h, e0]))
  · exact Or.inr (Int32.toInt_inj.mp (by rw [e1]; omega))
theorem bT_ref {h : sHp} {k K : Nat} {w : Value} (q : bT h (.inr (k, K)) w) (hk : 0 < k) : w = .null ∨ ∃ p, w = .ref p := by
  match k, hk, q with
  | 1, _, q => exact Or.inl q
  | 2, _, q =>
    obtain ⟨p, e, -⟩ := q
    exact Or.inr ⟨p, e⟩
  | k + 3, _, q => exact q.imp id (fun ⟨p, e, _⟩ => ⟨p, e⟩)
theorem bFty_ok {h : sHp} {s : FieldType} {t : bTy} {w : Value} (g : bFty s t = true) (q : bT h t w) : sFit s w = true := by
  unfold bFty at g
  split at g
  · rcases t with ⟨lo, hi⟩ | ⟨k, K⟩
    · obtain ⟨x, rfl, -⟩ := q
      rfl
    · cases g
  · rcases t with ⟨lo, hi⟩ | ⟨k, K⟩
    · obtain ⟨x, rfl, h3, h4⟩ := q
      replace g := aBa g
      obtain ⟨h1, h2⟩ := g
      exact decide_eq_true (b_bit (of_decide_eq_true h1) (of_decide_eq_true h2) h3 h4)
    · cases g
  · rcases t with ⟨lo, hi⟩ | ⟨k, K⟩
    · cases g
    · have e : k = 0 := aBt g
      subst e
      obtain ⟨x, rfl⟩ := q
      rfl
  · rcases t with ⟨lo, hi⟩ | ⟨k, K⟩
    · cases g
    · rcases bT_ref q (aBl g) with rfl | ⟨p, rfl⟩ <;> rfl
  · rcases t with ⟨lo, hi⟩ | ⟨k, K⟩
    · cases g
    · rcases bT_ref q (aBl g) with rfl | ⟨p, rfl⟩ <;> rfl
  · cases g
/-- an object behind a value -/
def bObj (S : bS) (v : bV) : Option (Nat × Nat × List bTy) := match bRef S v with
  | some K => (match bGam (bKd K) with
    | some (.inr (ci, tys)) => some (K, ci, tys)
    | _ => none)
  | none => none
def bArr (S : bS) (v : bV) : Option (Nat × Nat × Nat × bTy × List Int) := match bRef S v with
  | some K => (match bGam (bKd K) with
    | some (.inl z) => some (K, z)
    | _ => none)
  | none => none
def bGet (k : Nat) (S : bS) (st : List bV) (f : bS → List bV → Bool) : Bool := match st with
  | v :: r => (match bObj S v with
    | some (K, ci, tys) => (match aNth tys (k % 64) with
      | some ty => bif Nat.beq (sGrp ci) (k / 64) then (match ty with
        | .inl (lo, hi) => bif bOne K then (aF (K * 64 + k % 64) fun key => (match bOf key S.2.2.2.2.2.1 with
          | some x => f S (x :: r)
          | none => bNew lo hi S (fun S1 x => (match S1 with
            | (n, g, G, D, N, O, A) => f (n, g, G, D, N, (key, .inl x) :: O, A) (.inl x :: r))))) else bNew lo hi S (fun S1 x => f S1 (.inl x :: r))
        | ty => bMk ty S (fun S1 x => f S1 (x :: r))) else false
      | none => false)
    | none => false)
  | _ => false
def bDf (D : List (Nat × Nat × Int)) (i : Nat) : Nat × Int := match D with
  | [] => (i, 0)
  | e :: r => bif Nat.beq e.1 i then e.2 else bDf r i
/-- surely no smaller than what was there -/
def bGe : Nat → bS → bN → bN → Int → Bool
  | 0, _, _, _, _ => false
  | n + 1, S, a, b, c => bSmN a b && decide (0 ≤ c) || (match a with
    | .inr _ => false
    | .inl i => (match bDf S.2.2.2.1 i with
      | (j, e) => bif Nat.beq i j then false else bGe n S (.inl j) b (c + e)))
def bUp (S : bS) (key : Nat) (v : bV) : Bool := match v with
  | .inl a => (match bOf key S.2.2.2.2.2.1 with
    | some (.inl b) => bGe 9 S a b 0
    | _ => false)
  | _ => false
def bPtf (W k : Nat) (S : bS) (st : List bV) (f : bS → List bV → Bool) : Bool := match st with
  | v :: u :: r => (match bObj S u with
    | some (K, ci, tys) => (match aNth tys (k % 64) with
      | some ty => bif Nat.beq (sGrp ci) (k / 64) && (bFit S v ty && (bFty (sTy ci (k % 64)) ty && (Nat.blt K 113 && ((W.testBit (K * 64 + k % 64) && !(bPk (K * 64 + k % 64))) && (W.testBit (K * 64 + k % 64 + 8192) || (bOne K && bUp S (K * 64 + k % 64) v)))))) then (aF (K * 64 + k % 64) fun key => (match S with
        | (n, g, G, D, N, O, A) => bFil (fun e => !(Nat.beq e.1 key)) O fun O1 => bif bOne K then f (n, g, G, D, N, (key, v) :: O1, A) r else f (n, g, G, D, N, O1, A) r)) else false
      | none => false)
    | none => false)
  | _ => false
def bIx (S : bS) (a : bN) (n : Nat) : Bool := match bI S a with
  | (x, y) => decide (0 ≤ x) && decide (y < (n : Int))
def bLdv (t : Nat) (S : bS) (st : List bV) (f : bS → List bV → Bool) : Bool := match st with
  | .inl a :: v :: r => (match bArr S v with
    | some (_, t', n, ty, cs) => bif Nat.beq t' t && bIx S a n then (match ty with
      | .inl (lo, hi) => (match bI S a with
        | (x, y) => bif decide (x = y) then (match aNth cs x.toNat with
          | some z => f S (.inl (.inr z) :: r)
          | none => bNew lo hi S (fun S1 x => f S1 (.inl x :: r))) else bNew lo hi S (fun S1 x => f S1 (.inl x :: r)))
      | .inr (k, _) => bif Nat.beq k 0 then f S (.inr (0, 0) :: r) else false) else false
    | none => false)
  | _ => false
def bLda (S : bS) (st : List bV) (f : bS → List bV → Bool) : Bool := match st with
  | .inl a :: v :: r => (match bArr S v with
    | some (K, t, n, ty, _) => bif (Nat.blt 2 t && Nat.blt t 6) && bIx S a n then (bif bOne K then (match bAf K a S.2.2.2.2.2.2 with
        | some x => f S (x :: r)
        | none => bMk ty S (fun S1 x => (match S1 with
          | (n, g, G, D, N, O, A) => f (n, g, G, D, N, O, (K, a, x) :: A) (x :: r)))) else bMk ty S (fun S1 x => f S1 (x :: r))) else false
    | none => false)
  | _ => false
def bStv (t W : Nat) (S : bS) (st : List bV) (f : bS → List bV → Bool) : Bool := match st with
  | v :: .inl a :: u :: r => (match bArr S u with
    | some (K, t', n, ty, cs) => bif Nat.beq t' t && (bIx S a n && (bFit S v ty && (cs.isEmpty && (W.testBit (K * 64) && !(bPk (K * 64)))))) then f S r else false
    | none => false)
  | _ => false
def bSta (W : Nat) (S : bS) (st : List bV) (f : bS → List bV → Bool) : Bool := match st with
  | v :: .inl a :: u :: r => (match bArr S u with
    | some (K, t, n, ty, _) => bif Nat.beq t 4 && (bIx S a n && (bFit S v ty && (W.testBit (K * 64) && (match ty with
      | .inr (k, K') => Nat.beq k 3 && Nat.beq K' 113
      | _ => false)))) then (match S with
        | (n, g, G, D, N, O, A) => bFil (fun e => !(Nat.beq e.1 K)) A fun A1 => f (n, g, G, D, N, O, A1) r) else false
    | none => false)
  | _ => false
def bHeap (W : Nat) (ins : Instr) (S : bS) (st : List bV) (f : bS → List bV → Bool) : Bool := match ins with
  | .getfield k => bGet k S st f
  | .putfield k => bPtf W k S st f
  | .iaload => bLdv 0 S st f
  | .baload => bLdv 2 S st f
  | .laload => bLdv 1 S st f
  | .aaload => bLda S st f
  | .iastore => bStv 0 W S st f
  | .bastore => bStv 2 W S st f
  | .lastore => bStv 1 W S st f
  | .aastore => bSta W S st f
  | .arraylength => (match st with
    | v :: r => (match bArr S v with
      | some (_, t, n, _, _) => bif Nat.blt t 6 && Nat.blt n 100000 then aF n fun n => f S (.inl (.inr (Int.ofNat n)) :: r) else false
      | none => false)
    | _ => false)
  | .ldc2_w _ => f S (.inr (0, 0) :: st)
  | .ldc k => bif Nat.blt k 2147483648 then f S (.inl (.inr (Int.ofNat k)) :: st) else (bif Nat.blt k 4294967296 then aF (4294967295 - k) (fun j => f S (.inl (.inr (Int.negSucc j)) :: st)) else (bif Nat.blt k 4294967303 then aF (400 + (k - 4294967296)) (fun K => f S (.inr (2, K) :: st)) else false))
  | .ldc_w k => bif Nat.blt k 2147483648 then f S (.inl (.inr (Int.ofNat k)) :: st) else (bif Nat.blt k 4294967296 then aF (4294967295 - k) (fun j => f S (.inl (.inr (Int.negSucc j)) :: st)) else false)
  | _ => false
/-- what a step over the cells gives -/
def bHo (ι : List Value) (h : sHp) (W : Nat) (S : bS) (f : bS → List bV → Bool) (o : Option (List Value × sHp)) : Prop := ∃ ι' S' st' ws' h', o = some (ws', h') ∧ f S' st' = true ∧ bLe ι ι' ∧ bmS ι' h' S' ∧ bmT1 ι' h' st' ws' ∧ S'.2.1 = S.2.1 ∧ bH h' ∧ bFr W 0 h h'
section HEAP
variable {ι : List Value} {h : sHp} {S : bS} {st : List bV} {f : bS → List bV → Bool} {ws : List Value} {W : Nat}
theorem bObj_ok {v : bV} {w : Value} {K ci0 : Nat} {tys : List bTy} (g : bObj S v = some (K, ci0, tys)) (hH : bH h) (q : bmS ι h S) (hv : bmV ι h v w) : ∃ (p ci : Nat) (fs : List Value), w = .ref p ∧ h[p]? = some (.inr (ci, fs)) ∧ sGrp ci = sGrp ci0 ∧ (K ≠ 113 → ci = ci0) ∧ fs.length = tys.length ∧ (∀ (j : Nat) (ty : bTy), tys[j]? = some ty → ∃ v : Value, fs[j]? = some v ∧ bT h ty v) ∧ bGam (bKp p (.inr (ci, fs))) = some (.inr (ci, tys)) ∧ bKK (bKp p (.inr (ci, fs))) K = true := by
  unfold bObj at g
  split at g
  · rename_i K' hr
    obtain ⟨p, rfl, hp⟩ := bRef_ok hr q hv
    split at g
    · rename_i ci1 tys1 hg
      cases g
      obtain ⟨ci, fs, h1, h2⟩ := bIn_obj hH hp hg
      exact ⟨p, ci, fs, rfl, h1, h2⟩
    · cases g
  · cases g
theorem bArr_ok {v : bV} {w : Value} {K t n : Nat} {ty : bTy} {cs : List Int} (g : bArr S v = some (K, t, n, ty, cs)) (hH : bH h) (q : bmS ι h S) (hv : bmV ι h v w) : ∃ p c, w = .ref p ∧ h[p]? = some c ∧ bCm h (.inl (t, n, ty, cs)) c ∧ bKp p c = K ∧ bGam K = some (.inl (t, n, ty, cs)) := by
  unfold bArr at g
  split at g
  · rename_i K' hr
    obtain ⟨p, rfl, hp⟩ := bRef_ok hr q hv
    split at g
    · rename_i z hg
      cases g
      obtain ⟨c, h1, h2⟩ := bIn_arr hH hp hg
      exact ⟨p, c, rfl, h1, h2⟩
    · cases g
  · cases g
theorem bIx_ok {a : bN} {x : Int32} {n : Nat} (g : bIx S a n = true) (q : bmS ι h S) (hx : bmI ι a x) : ¬ (x < 0 ∨ n ≤ x.toNatClampNeg) ∧ x.toNatClampNeg < n ∧ (x.toNatClampNeg : Int) = x.toInt := by
  have h0 := bI_ok q hx
  unfold bIx at g
  generalize bI S a = p at g h0
  obtain ⟨lo, hi⟩ := p
  unfold aW at h0
  dsimp only at g h0
  replace g := aBa g
  obtain ⟨g1, g2⟩ := g
  replace g1 := of_decide_eq_true g1
  replace g2 := of_decide_eq_true g2
  have e : (x.toNatClampNeg : Int) = x.toInt := by
    show ((x.toInt.toNat : Nat) : Int) = x.toInt
    omega
  refine ⟨fun z => ?_, by omega, e⟩
  rcases z with z | z
  · have := Int32.lt_iff_toInt_lt.mp z
    have e0 : (0 : Int32).toInt = 0 := rfl
    omega
  · omega
theorem bHo_read {w : Value} {r : List bV} {rs : List Value} {ty : bTy} {o : Option (List Value × sHp)} (g : bMk ty S (fun S1 x => f S1 (x :: r)) = true) (hH : bH h) (q : bmS ι h S) (hr : bmT1 ι h r rs) (hw : bT h ty w) (ho : o = some (w :: rs, h)) : bHo ι h W S f o := by
  obtain ⟨ι', S', v, g1, g2, g3, g4, g5⟩ := bMk_ok g q hw
  exact ⟨ι', S', _, _, h, ho, g1, g2, g3, ⟨g4, bmT1_mono g2 (bEx_refl h) hr⟩, g5, hH, bFr_refl W h⟩
theorem bHo_same {st' : List bV} {ws' : List Value} {o : Option (List Value × sHp)} (g : f S st' = true) (hH : bH h) (q : bmS ι h S) (ho : o = some (ws', h)) (hr : bmT1 ι h st' ws') : bHo ι h W S f o := ⟨ι, S, _, _, h, ho, g, bLe_refl ι, q, hr, rfl, hH, bFr_refl W h⟩
theorem bGet_ok {k : Nat} (g : bGet k S st f = true) (hH : bH h) (q : bmS ι h S) (hs : bmT1 ι h st ws) : bHo ι h W S f (sGetF k ws h) := by
  unfold bGet at g
  split at g
  · rename_i v r
    replace hs := bmT1_cons hs
    obtain ⟨w, s, rfl, hv, hs⟩ := hs
    split at g
    · rename_i K ci0 tys ho
      obtain ⟨p, ci, fs, rfl, h1, h2, -, h4, h5, -, h6⟩ := bObj_ok ho hH q hv
      split at g
      · rename_i ty hty
        rw [aNth_eq] at hty
        obtain ⟨x, hx, hT⟩ := h5 _ _ hty
        replace g := b_bif g
        obtain ⟨b1, g⟩ := g
        have e : sGetF k (.ref p :: s) h = some (x :: s, h) := by
          unfold sGetF
          dsimp only
          rw [h1]
          dsimp only
          rw [if_pos (h2.trans (aBt b1)), hx]
        split at g
        · rename_i lo hi
          cases hb : bOne K with
          | false =>
            rw [hb] at g
            exact bHo_read (ty := .inl (lo, hi)) g hH q hs hT e
          | true =>
            rw [hb] at g
            dsimp only [cond] at g
            rw [aF_eq] at g
            have hk : bKp p (.inr (ci, fs)) = K := by
              rcases bKK_cases h6 with e1 | ⟨e1, -⟩
              · exact e1
              · exact absurd (bOne_k hb (.inr (0, []))).1 (by omega)
            have hp := bOne_p hb hk
            subst hp
            have hdiv : (p * 64 + k % 64) / 64 = p := by omega
            have hmod : (p * 64 + k % 64) % 64 = k % 64 := by omega
            split at g
            · rename_i y hy
              obtain ⟨-, ci', fs', w', k1, k2, k3⟩ := q.2.2.2.2.1 _ (bOf_mem hy)
              dsimp only at k1 k2 k3
              rw [hdiv, h1] at k1
              cases k1
              rw [hmod, hx] at k2
              cases k2
              exact bHo_same g hH q e ⟨k3, hs⟩
            · obtain ⟨z, rfl, hz⟩ := hT
              obtain ⟨ι', S', a, g1, g2, g3, g4, g5⟩ := bNew_ok g q (x := z) hz
              obtain ⟨n0, g0, G, D, N, O, A⟩ := S'
              refine ⟨ι', _, _, _, h, e, g1, g2, ⟨g3.1, g3.2.1, g3.2.2.1, g3.2.2.2.1, ?_, g3.2.2.2.2.2⟩, ⟨⟨z, rfl, g4⟩, bmT1_mono g2 (bEx_refl h) hs⟩, g5, hH, bFr_refl W h⟩
              intro e' he
              rcases List.mem_cons.mp he with rfl | he
              · refine ⟨by dsimp only; rw [hdiv]; exact hb, ci, fs, .int z, by dsimp only; rw [hdiv]; exact h1, by dsimp only; rw [hmod]; exact hx, z, rfl, g4⟩
              · exact g3.2.2.2.2.1 e' he
        · exact bHo_read g hH q hs hT e
      · cases g
    · cases g
  · cases g
/-- the state after a write that leaves what it knows -/
theorem bmS_heap {h' : sHp} {n g : Nat} {G : List (Nat × Int × Int)} {D : List (Nat × Nat × Int)} {N : List (Nat × Bool)} {O O' : List (Nat × bV)} {A A' : List (Nat × bN × bV)} (q : bmS ι h (n, g, G, D, N, O, A)) (hO : bmO ι h' O') (hA : bmA ι h' A') : bmS ι h' (n, g, G, D, N, O', A') := ⟨q.1, q.2.1, q.2.2.1, q.2.2.2.1, hO, hA⟩
theorem bmA_obj {p ci ci' : Nat} {fs fs' : List Value} {A : List (Nat × bN × bV)} (q : bmA ι h A) (hc : h[p]? = some (.inr (ci, fs))) (hx : bEx h (h.set p (.inr (ci', fs')))) : bmA ι (h.set p (.inr (ci', fs'))) A := fun e he => by
  obtain ⟨h0, t, n, f, j, h1, h2, h3⟩ := q e he
  refine ⟨h0, t, n, f, j, ?_, h2, bmV_mono (bLe_refl ι) hx h3⟩
  by_cases e1 : p = e.1
  · subst e1
    rw [hc] at h1
    cases h1
  · rw [s_set_ne e1]
    exact h1
theorem bmO_arr {p t n : Nat} {d : (Nat → Int32) ⊕ (Nat → Int64) ⊕ (Nat → UInt32) ⊕ (Nat → UInt64) ⊕ (Nat → Option Nat)} {c' : va_E} {O : List (Nat × bV)} (q : bmO ι h O) (hc : h[p]? = some (.inl (t, n, d))) (hx : bEx h (h.set p c')) : bmO ι (h.set p c') O := fun e he => by
  obtain ⟨h0, ci, fs, w, h1, h2, h3⟩ := q e he
  refine ⟨h0, ci, fs, w, ?_, h2, bmV_mono (bLe_refl ι) hx h3⟩
  by_cases e1 : p = e.1 / 64
  · subst e1
    rw [hc] at h1
    cases h1
  · rw [s_set_ne e1]
    exact h1
theorem bDf_sp {i : Nat} : ∀ {D : List (Nat × Nat × Int)}, bmD ι D → ∀ {x : Int32}, ι[i]? = some (.int x) → ∃ y, ι[(bDf D i).1]? = some (.int y) ∧ x.toInt = y.toInt + (bDf D i).2 := by
  intro D
  induction D with
  | nil => intro _ x hx; exact ⟨x, hx, by show x.toInt = x.toInt + 0; omega⟩
  | cons e r ih =>
    intro hD x hx
    unfold bDf
    cases hb : Nat.beq e.1 i with
    | true =>
      obtain ⟨u, y, h1, h2, h3⟩ := hD e List.mem_cons_self
      rw [aBt hb, hx] at h1
      cases h1
      exact ⟨y, h2, h3⟩
    | false => exact ih (fun e he => hD e (List.mem_cons_of_mem _ he)) hx
theorem bGe_ok (q : bmS ι h S) : ∀ (n : Nat) (a b : bN) (c : Int) {x y : Int32}, bGe n S a b c = true → bmI ι a x → bmI ι b y → y.toInt ≤ x.toInt + c := by
  intro n
  induction n with
  | zero => intro a b c x y g; cases g
  | succ n ih =>
    intro a b c x y g ha hb
    unfold bGe at g
    rw [Bool.or_eq_true] at g
    rcases g with g | g
    · obtain ⟨g1, g2⟩ := aBa g
      have g2 := of_decide_eq_true g2
      have e := bSmN_ok g1
      subst e
      have e2 : x = y := by
        cases a with
        | inl i =>
          have h1 : ι[i]? = some (Value.int x) := ha
          have h2 : ι[i]? = some (Value.int y) := hb
          rw [h1] at h2
          cases h2
          rfl
        | inr z =>
          have h1 : x.toInt = z := ha
          have h2 : y.toInt = z := hb
          exact Int32.toInt_inj.mp (h1.trans h2.symm)
      subst e2
      omega
    · cases a with
      | inr z => cases g
      | inl i =>
        dsimp only at g
        have h0 := bDf_sp (i := i) q.2.2.1 ha
        generalize bDf S.2.2.2.1 i = p at g h0
        obtain ⟨j, e⟩ := p
        obtain ⟨w, h1, h2⟩ := h0
        dsimp only at g h1 h2
        cases hij : Nat.beq i j with
        | true => rw [hij] at g; cases g
        | false =>
          rw [hij] at g
          have h3 := ih (.inl j) b (c + e) (x := w) g h1 hb
          omega
theorem bUp_ok {K j p ci : Nat} {fs : List Value} {v : bV} {x : Value} (h1 : bOne K = true) (hk : bKp p (.inr (ci, fs)) = K) (hc : h[p]? = some (.inr (ci, fs))) (g : bUp S (K * 64 + j % 64) v = true) (q : bmS ι h S) (hv : bmV ι h v x) : bVi fs[j % 64]? ≤ bVi (some x) := by
  have hp := bOne_p h1 hk
  subst hp
  unfold bUp at g
  split at g
  · rename_i a
    obtain ⟨z, rfl, hz⟩ := hv
    split at g
    · rename_i b hb
      obtain ⟨-, ci', fs', w', k1, k2, k3⟩ := q.2.2.2.2.1 _ (bOf_mem hb)
      dsimp only at k1 k2 k3
      rw [show (p * 64 + j % 64) / 64 = p by omega, hc] at k1
      cases k1
      rw [show (p * 64 + j % 64) % 64 = j % 64 by omega] at k2
      obtain ⟨y, rfl, hy⟩ := k3
      rw [k2]
      show y.toInt ≤ z.toInt
      have := bGe_ok q 9 a b 0 g hz hy
      omega
    · cases g
  · cases g
theorem bPtf_ok {k : Nat} (g : bPtf W k S st f = true) (hH : bH h) (q : bmS ι h S) (hs : bmT1 ι h st ws) : bHo ι h W S f (sPutF k ws h) := by
  unfold bPtf at g
  split at g
  · rename_i v u r
    replace hs := bmT1_cons hs
    obtain ⟨x, s1, rfl, hv, hs⟩ := hs
    replace hs := bmT1_cons hs
    obtain ⟨w, s, rfl, hu, hs⟩ := hs
    split at g
    · rename_i K ci0 tys ho
      obtain ⟨p, ci, fs, rfl, h1, h2, h3, h4, h5, h7, h6⟩ := bObj_ok ho hH q hu
      split at g
      · rename_i ty hty
        rw [aNth_eq] at hty
        replace g := b_bif g
        obtain ⟨b1, g⟩ := g
        replace b1 := aBa b1
        obtain ⟨b1, b2⟩ := b1
        replace b2 := aBa b2
        obtain ⟨b2, b3⟩ := b2
        replace b3 := aBa b3
        obtain ⟨b3, b4⟩ := b3
        replace b4 := aBa b4
        obtain ⟨b4, b5⟩ := b4
        replace b5 := aBa b5
        obtain ⟨b5, b6⟩ := b5
        obtain ⟨b5, b9⟩ := aBa b5
        rw [Bool.not_eq_true'] at b9
        have hK := aBl b4
        have hci := h3 (by omega)
        subst hci
        have hk : bKp p (.inr (ci, fs)) = K := by
          rcases bKK_cases h6 with e1 | ⟨e1, -⟩
          · exact e1
          · omega
        have hT := bFit_ok b2 q hv
        have hlt : k % 64 < fs.length := by
          rw [h4]
          exact (List.getElem?_eq_some_iff.mp hty).1
        have e : sPutF k (x :: .ref p :: s) h = some (s, h.set p (.inr (ci, fs.set (k % 64) x))) := by
          unfold sPutF
          dsimp only
          rw [h1]
          dsimp only
          rw [if_pos ⟨aBt b1, hlt, bFty_ok b3 hT⟩]
        have hcf : bCf W (bKp p (.inr (ci, fs))) (.inr (ci, fs)) (.inr (ci, fs.set (k % 64) x)) := by
          refine ⟨rfl, by rw [List.length_set], fun j hj => ?_, fun j hj => ?_⟩
          · rw [hk] at hj
            by_cases ej : k % 64 = j
            · subst ej
              rw [b5] at hj
              cases hj
            · rw [List.getElem?_set_ne ej]
          · rw [hk] at hj
            by_cases ej : k % 64 = j
            · subst ej
              rw [hj] at b6
              obtain ⟨b7, b8⟩ := aBa b6
              rw [List.getElem?_set_self hlt]
              exact bUp_ok b7 hk h1 b8 q hv
            · rw [List.getElem?_set_ne ej]
              exact Int.le_refl _
        have hcm : bCm h (.inr (ci, tys)) (.inr (ci, fs.set (k % 64) x)) := by
          refine ⟨_, rfl, by rw [List.length_set]; exact h4, fun j ty' hj => ?_⟩
          by_cases ej : k % 64 = j
          · subst ej
            rw [hty] at hj
            cases hj
            exact ⟨x, by rw [List.getElem?_set_self hlt], hT⟩
          · obtain ⟨y, y1, y2⟩ := h5 j ty' hj
            exact ⟨y, by rw [List.getElem?_set_ne ej]; exact y1, y2⟩
        have hF := bFr_set h1 hcf
        have hx := bEx_of hF
        rw [aF_eq] at g
        obtain ⟨n0, g0, G, D, N, O, A⟩ := S
        dsimp only at g
        rw [bFil_eq] at g
        have hO : bmO ι (h.set p (.inr (ci, fs.set (k % 64) x))) (O.filter (fun e => !(Nat.beq e.1 (K * 64 + k % 64)))) := by
          intro e' he
          obtain ⟨m1, m2⟩ := List.mem_filter.mp he
          rw [aBq, Bool.not_eq_true', decide_eq_false_iff_not] at m2
          obtain ⟨k0, ci', fs', w', k1, k2, k3⟩ := q.2.2.2.2.1 e' m1
          by_cases e1 : p = e'.1 / 64
          · have e2 : K = e'.1 / 64 := by
              rw [← hk, e1]
              exact (bOne_k k0 _).2
            have e3 : k % 64 ≠ e'.1 % 64 := by omega
            rw [← e1, h1] at k1
            cases k1
            refine ⟨k0, ci, _, w', by rw [← e1]; exact s_set_eq h1, ?_, bmV_mono (bLe_refl ι) hx k3⟩
            rw [List.getElem?_set_ne e3]
            exact k2
          · exact ⟨k0, ci', fs', w', by rw [s_set_ne e1]; exact k1, k2, bmV_mono (bLe_refl ι) hx k3⟩
        have hA := bmA_obj q.2.2.2.2.2 h1 hx
        have hH' := bH_set hH h1 hcf h7 hcm (bP_obj hH.2.2 h1 hk b9)
        cases hb : bOne K with
        | false =>
          rw [hb] at g
          exact ⟨ι, _, r, s, _, e, g, bLe_refl ι, bmS_heap q hO hA, bmT1_mono (bLe_refl ι) hx hs, rfl, hH', hF⟩
        | true =>
          rw [hb] at g
          have hp := bOne_p hb hk
          subst hp
          have hdiv : (p * 64 + k % 64) / 64 = p := by omega
          have hmod : (p * 64 + k % 64) % 64 = k % 64 := by omega
          refine ⟨ι, _, r, s, _, e, g, bLe_refl ι, bmS_heap q ?_ hA, bmT1_mono (bLe_refl ι) hx hs, rfl, hH', hF⟩
          intro e' he
          rcases List.mem_cons.mp he with rfl | he
          · refine ⟨by dsimp only; rw [hdiv]; exact hb, ci, fs.set (k % 64) x, x, by dsimp only; rw [hdiv]; exact s_set_eq h1, by dsimp only; rw [hmod, List.getElem?_set_self hlt], bmV_mono (bLe_refl ι) hx hv⟩
          · exact hO e' he
      · cases g
    · cases g
  · cases g
theorem b_cm_int {t n : Nat} {lo hi : Int} {cs : List Int} {c : va_E} (hm : bCm h (.inl (t, n, .inl (lo, hi), cs)) c) : ∃ fi, c = .inl (t, n, .inl fi) ∧ (∀ i, i < n → lo ≤ (fi i).toInt ∧ (fi i).toInt ≤ hi) ∧ (∀ i z, cs[i]? = some z → (fi i).toInt = z) := hm
theorem b_cm_long {t n K : Nat} {cs : List Int} {c : va_E} (hm : bCm h (.inl (t, n, .inr (0, K), cs)) c) : ∃ fl, c = .inl (t, n, .inr (.inl fl)) := hm
theorem b_cm_ref {t n k K : Nat} {cs : List Int} {c : va_E} (hm : bCm h (.inl (t, n, .inr (k, K), cs)) c) (hk : 0 < k) : ∃ fr, c = .inl (t, n, .inr (.inr (.inr (.inr fr)))) ∧ ∀ i, i < n → bT h (.inr (k, K)) (va_rf (fr i)) := by
  obtain ⟨j, rfl⟩ : ∃ j, k = j + 1 := ⟨k - 1, by omega⟩
  exact hm
/-- the types of an array's elements by its tag -/
def bTag (t : Nat) (ty : bTy) : Bool := match ty with
  | .inl (lo, hi) => Nat.beq t 0 || (Nat.beq t 2 && (decide (0 ≤ lo) && decide (hi ≤ 1)))
  | .inr (k, _) => bif Nat.beq k 0 then Nat.beq t 1 else Nat.blt 2 t
theorem bGl_tag : ∀ K, K < 128 → (match bGam K with
  | some (.inl (t, _, ty, _)) => bTag t ty
  | _ => true) = true := by decide +kernel
theorem b_tag {K t n : Nat} {ty : bTy} {cs : List Int} (hg : bGam K = some (.inl (t, n, ty, cs))) : bTag t ty = true := by
  have h1 := bGl_tag K (bGam_lt hg)
  rw [hg] at h1
  exact h1
theorem bLdv_ok {t : Nat} (g : bLdv t S st f = true) (hH : bH h) (q : bmS ι h S) (hs : bmT1 ι h st ws) : bHo ι h W S f (bif Nat.beq t 1 then sLdAL ws h else sLdAI t ws h) := by
  unfold bLdv at g
  split at g
  · rename_i a v r
    replace hs := bmT1_cons hs
    obtain ⟨w, s1, rfl, ⟨x, rfl, ha⟩, hs⟩ := hs
    replace hs := bmT1_cons hs
    obtain ⟨w2, s, rfl, hv, hs⟩ := hs
    split at g
    · rename_i K t' n ty cs ho
      obtain ⟨p, c, rfl, hc, hm, hk, hg⟩ := bArr_ok ho hH q hv
      replace g := b_bif g
      obtain ⟨b1, g⟩ := g
      replace b1 := aBa b1
      obtain ⟨b1, b2⟩ := b1
      have et := aBt b1
      subst et
      obtain ⟨i1, i2, i3⟩ := bIx_ok b2 q ha
      have htag := b_tag hg
      rcases ty with ⟨lo, hi⟩ | ⟨k, K'⟩
      · obtain ⟨fi, rfl, f1, f2⟩ := b_cm_int hm
        have t1 : t' ≠ 1 := by
          intro z
          subst z
          cases htag
        have e : (bif Nat.beq t' 1 then sLdAL (.int x :: .ref p :: s) h else sLdAI t' (.int x :: .ref p :: s) h) = some (.int (fi x.toNatClampNeg) :: s, h) := by
          rw [aBq, decide_eq_false t1]
          show sLdAI t' (.int x :: .ref p :: s) h = _
          unfold sLdAI
          dsimp only
          rw [hc]
          dsimp only
          rw [if_pos ⟨rfl, i1⟩]
        have hT : bT h (.inl (lo, hi)) (.int (fi x.toNatClampNeg)) := ⟨_, rfl, f1 _ i2⟩
        have h0 := bI_ok q ha
        dsimp only at g
        generalize bI S a = pp at g h0
        obtain ⟨u, y⟩ := pp
        unfold aW at h0
        dsimp only at g h0
        cases hd : decide (u = y) with
        | true =>
          rw [hd] at g
          replace hd := of_decide_eq_true hd
          dsimp only [cond] at g
          cases hz : aNth cs u.toNat with
          | some z =>
            rw [hz] at g
            rw [aNth_eq] at hz
            refine bHo_same g hH q e ⟨⟨_, rfl, ?_⟩, hs⟩
            have e5 : x.toNatClampNeg = u.toNat := by omega
            rw [← e5] at hz
            exact f2 _ _ hz
          | none =>
            rw [hz] at g
            exact bHo_read (ty := .inl (lo, hi)) g hH q hs hT e
        | false =>
          rw [hd] at g
          exact bHo_read (ty := .inl (lo, hi)) g hH q hs hT e
      · replace g := b_bif g
        obtain ⟨g1, g⟩ := g
        have hk0 := aBt g1
        subst hk0
        have et : t' = 1 := aBt htag
        subst et
        obtain ⟨fl, rfl⟩ := b_cm_long hm
        refine bHo_same (ws' := .long (fl x.toNatClampNeg) :: s) g hH q ?_ ⟨⟨_, rfl⟩, hs⟩
        show sLdAL (.int x :: .ref p :: s) h = _
        unfold sLdAL
        dsimp only
        rw [hc]
        dsimp only
        rw [if_pos ⟨rfl, i1⟩]
    · cases g
  · cases g
theorem bLda_ok (g : bLda S st f = true) (hH : bH h) (q : bmS ι h S) (hs : bmT1 ι h st ws) : bHo ι h W S f (sLdAA ws h) := by
  unfold bLda at g
  split at g
  · rename_i a v r
    replace hs := bmT1_cons hs
    obtain ⟨w, s1, rfl, ⟨x, rfl, ha⟩, hs⟩ := hs
    replace hs := bmT1_cons hs
    obtain ⟨w2, s, rfl, hv, hs⟩ := hs
    split at g
    · rename_i K t n ty cs ho
      obtain ⟨p, c, rfl, hc, hm, hk, hg⟩ := bArr_ok ho hH q hv
      replace g := b_bif g
      obtain ⟨b1, g⟩ := g
      replace b1 := aBa b1
      obtain ⟨b1, b2⟩ := b1
      replace b1 := aBa b1
      obtain ⟨b1, b3⟩ := b1
      replace b1 := aBl b1
      replace b3 := aBl b3
      obtain ⟨i1, i2, i3⟩ := bIx_ok b2 q ha
      have htag := b_tag hg
      rcases ty with ⟨lo, hi⟩ | ⟨k, K'⟩
      · exfalso
        unfold bTag at htag
        rw [aBq, aBq, decide_eq_false (show ¬ t = 0 by omega), decide_eq_false (show ¬ t = 2 by omega)] at htag
        cases htag
      · have hk0 : 0 < k := by
          by_cases z : k = 0
          · subst z
            have : t = 1 := aBt htag
            omega
          · omega
        obtain ⟨fr, rfl, f1⟩ := b_cm_ref hm hk0
        have ht5 : t = 3 ∨ t = 4 ∨ t = 5 := by omega
        have e : sLdAA (.int x :: .ref p :: s) h = some (va_rf (fr x.toNatClampNeg) :: s, h) := by
          unfold sLdAA
          dsimp only
          rw [hc]
          dsimp only
          rw [if_pos ⟨ht5, i1⟩]
        have hT := f1 _ i2
        cases hb : bOne K with
        | false =>
          rw [hb] at g
          dsimp only [cond] at g
          exact bHo_read g hH q hs hT e
        | true =>
          rw [hb] at g
          dsimp only [cond] at g
          have hp := bOne_p hb hk
          subst hp
          split at g
          · rename_i y hy
            obtain ⟨-, t2, n2, f2, j, k1, k2, k3⟩ := q.2.2.2.2.2 _ (bAf_mem hy)
            dsimp only at k1 k2 k3
            rw [hc] at k1
            cases k1
            have e9 : j = x := by
              cases a with
              | inl i =>
                have z1 : ι[i]? = some (.int j) := k2
                have z2 : ι[i]? = some (.int x) := ha
                rw [z1] at z2
                cases z2
                rfl
              | inr c0 =>
                have z1 : j.toInt = c0 := k2
                have z2 : x.toInt = c0 := ha
                exact Int32.toInt_inj.mp (z1.trans z2.symm)
            subst e9
            exact bHo_same g hH q e ⟨k3, hs⟩
          · obtain ⟨ι', S', v', g1, g2, g3, g4, g5⟩ := bMk_ok g q hT
            obtain ⟨n0, g0, G, D, N, O, A⟩ := S'
            refine ⟨ι', _, _, _, h, e, g1, g2, ⟨g3.1, g3.2.1, g3.2.2.1, g3.2.2.2.1, g3.2.2.2.2.1, ?_⟩, ⟨g4, bmT1_mono g2 (bEx_refl h) hs⟩, g5, hH, bFr_refl W h⟩
            intro e' he
            rcases List.mem_cons.mp he with rfl | he
            · exact ⟨hb, t, n, fr, x, hc, bmI_mono g2 ha, g4⟩
            · exact g3.2.2.2.2.2 e' he
    · cases g
  · cases g
theorem bmA_arr {p : Nat} {c c' : va_E} {A : List (Nat × bN × bV)} (q : bmA ι h A) (hx : bEx h (h.set p c')) (hp : ∀ e ∈ A, bOne e.1 = true → p ≠ e.1) : bmA ι (h.set p c') A := fun e he => by
  obtain ⟨h0, t, n, f, j, h1, h2, h3⟩ := q e he
  exact ⟨h0, t, n, f, j, by rw [s_set_ne (hp e he h0)]; exact h1, h2, bmV_mono (bLe_refl ι) hx h3⟩
theorem bmA_num {p t n : Nat} {d : (Nat → Int32) ⊕ (Nat → Int64) ⊕ (Nat → UInt32) ⊕ (Nat → UInt64) ⊕ (Nat → Option Nat)} {c' : va_E} {A : List (Nat × bN × bV)} (q : bmA ι h A) (hc : h[p]? = some (.inl (t, n, d))) (hd : ∀ fr, d ≠ .inr (.inr (.inr (.inr fr)))) (hx : bEx h (h.set p c')) : bmA ι (h.set p c') A := fun e he => by
  obtain ⟨h0, t, n, f, j, h1, h2, h3⟩ := q e he
  refine ⟨h0, t, n, f, j, ?_, h2, bmV_mono (bLe_refl ι) hx h3⟩
  by_cases e1 : p = e.1
  · subst e1
    rw [hc] at h1
    cases h1
    exact absurd rfl (hd f)
  · rw [s_set_ne e1]
    exact h1
theorem bStv_ok {t : Nat} (g : bStv t W S st f = true) (hH : bH h) (q : bmS ι h S) (hs : bmT1 ι h st ws) (ht : t = 0 ∨ t = 1 ∨ t = 2) : bHo ι h W S f (bif Nat.beq t 1 then sStAL ws h else bif Nat.beq t 0 then sStAI ws h else sStAZ ws h) := by
  unfold bStv at g
  split at g
  · rename_i v a u r
    replace hs := bmT1_cons hs
    obtain ⟨w, s1, rfl, hv, hs⟩ := hs
    replace hs := bmT1_cons hs
    obtain ⟨w1, s2, rfl, ⟨x, rfl, ha⟩, hs⟩ := hs
    replace hs := bmT1_cons hs
    obtain ⟨w2, s, rfl, hu, hs⟩ := hs
    split at g
    · rename_i K t' n ty cs ho
      obtain ⟨p, c, rfl, hc, hm, hk, hg⟩ := bArr_ok ho hH q hu
      replace g := b_bif g
      obtain ⟨b1, g⟩ := g
      replace b1 := aBa b1
      obtain ⟨b1, b2⟩ := b1
      replace b2 := aBa b2
      obtain ⟨b2, b3⟩ := b2
      replace b3 := aBa b3
      obtain ⟨b3, b4⟩ := b3
      replace b4 := aBa b4
      obtain ⟨b4, b5⟩ := b4
      obtain ⟨b5, b9⟩ := aBa b5
      rw [Bool.not_eq_true'] at b9
      have et := aBt b1
      subst et
      obtain ⟨i1, i2, i3⟩ := bIx_ok b2 q ha
      have htag := b_tag hg
      have hT := bFit_ok b3 q hv
      have hcs : cs = [] := List.isEmpty_iff.mp b4
      subst hcs
      obtain ⟨n0, g0, G, D, N, O, A⟩ := S
      rcases ty with ⟨lo, hi⟩ | ⟨k, K'⟩
      · obtain ⟨fi, rfl, f1, -⟩ := b_cm_int hm
        obtain ⟨y, rfl, hy⟩ := hT
        have t1 : t' ≠ 1 := by
          intro z
          subst z
          cases htag
        have hcf : bCf W (bKp p (.inl (t', n, .inl fi))) (.inl (t', n, .inl fi)) (.inl (t', n, .inl (upd fi x.toNatClampNeg y))) := by
          refine ⟨rfl, rfl, fun hj => ?_⟩
          rw [hk, b5] at hj
          cases hj
        have hcm : bCm h (.inl (t', n, .inl (lo, hi), [])) (.inl (t', n, .inl (upd fi x.toNatClampNeg y))) := by
          refine ⟨_, rfl, fun i hi => ?_, fun i z hz => by cases hz⟩
          unfold upd
          split
          · exact hy
          · exact f1 i hi
        have hF := bFr_set hc hcf
        have hx := bEx_of hF
        refine ⟨ι, _, r, s, _, ?_, g, bLe_refl ι, bmS_heap q (bmO_arr q.2.2.2.2.1 hc hx) (bmA_num q.2.2.2.2.2 hc (fun fr z => by cases z) hx), bmT1_mono (bLe_refl ι) hx hs, rfl, bH_set hH hc hcf (by rw [hk]; exact hg) hcm (bP_arr hH.2.2 hc (bP_ne hk b9).1 (bP_ne hk b9).2), hF⟩
        rw [aBq, decide_eq_false t1]
        rcases ht with rfl | e | rfl
        · show sStAI (.int y :: .int x :: .ref p :: s) h = _
          unfold sStAI
          dsimp only
          rw [hc]
          dsimp only
          rw [if_pos ⟨rfl, i1⟩]
        · exact absurd e t1
        · show sStAZ (.int y :: .int x :: .ref p :: s) h = _
          have hb : y = 0 ∨ y = 1 := by
            obtain ⟨z1, z2⟩ := aBa (show (decide (0 ≤ lo) && decide (hi ≤ 1)) = true from htag)
            exact b_bit (of_decide_eq_true z1) (of_decide_eq_true z2) hy.1 hy.2
          unfold sStAZ
          dsimp only
          rw [hc]
          dsimp only
          rw [if_pos ⟨rfl, hb, i1⟩]
      · have hk0 : k = 0 := by
          by_cases z : k = 0
          · exact z
          · exfalso
            unfold bTag at htag
            dsimp only at htag
            rw [aBq, decide_eq_false z] at htag
            have := aBl htag
            omega
        subst hk0
        have et : t' = 1 := aBt htag
        subst et
        obtain ⟨fl, rfl⟩ := b_cm_long hm
        obtain ⟨y, rfl⟩ := hT
        have hcf : bCf W (bKp p (.inl (1, n, .inr (.inl fl)))) (.inl (1, n, .inr (.inl fl))) (.inl (1, n, .inr (.inl (vp_updL fl x.toNatClampNeg y)))) := by
          refine ⟨rfl, rfl, fun hj => ?_⟩
          rw [hk, b5] at hj
          cases hj
        have hcm : bCm h (.inl (1, n, .inr (0, K'), [])) (.inl (1, n, .inr (.inl (vp_updL fl x.toNatClampNeg y)))) := ⟨_, rfl⟩
        have hF := bFr_set hc hcf
        have hx := bEx_of hF
        refine ⟨ι, _, r, s, _, ?_, g, bLe_refl ι, bmS_heap q (bmO_arr q.2.2.2.2.1 hc hx) (bmA_num q.2.2.2.2.2 hc (fun fr z => by cases z) hx), bmT1_mono (bLe_refl ι) hx hs, rfl, bH_set hH hc hcf (by rw [hk]; exact hg) hcm (bP_arr hH.2.2 hc (bP_ne hk b9).1 (bP_ne hk b9).2), hF⟩
        show sStAL (.long y :: .int x :: .ref p :: s) h = _
        unfold sStAL
        dsimp only
        rw [hc]
        dsimp only
        rw [if_pos ⟨rfl, i1⟩]
    · cases g
  · cases g
theorem b_isobj {q0 : Nat} (hH : bH h) (hq : bIn h 113 q0) : sIsObj 4 h[q0]? = true := by
  obtain ⟨ci, fs, h1, h2, -, -, -, h3, h4⟩ := bIn_obj hH hq (ci0 := 2) rfl
  rw [h1]
  rcases bKK_cases h4 with e | ⟨-, e⟩
  · rw [e] at h3
    exact absurd (bGam_lt h3) (by intro; have : bGam 113 = none := rfl; rw [this] at h3; cases h3)
  · have key : ci = 0 ∨ ci = 1 ∨ ci = 2 ∨ ci = 4 ∨ ci = 5 ∨ ci = 9 ∨ ci = 10 := by
      rcases bIsC_cases e with e | e | e | e | e | e | e <;> rw [e] at h3 <;> cases h3 <;> simp
    rcases key with rfl | rfl | rfl | rfl | rfl | rfl | rfl <;> rfl
theorem bSta_ok (g : bSta W S st f = true) (hH : bH h) (q : bmS ι h S) (hs : bmT1 ι h st ws) : bHo ι h W S f (sStAA ws h) := by
  unfold bSta at g
  split at g
  · rename_i v a u r
    replace hs := bmT1_cons hs
    obtain ⟨w, s1, rfl, hv, hs⟩ := hs
    replace hs := bmT1_cons hs
    obtain ⟨w1, s2, rfl, ⟨x, rfl, ha⟩, hs⟩ := hs
    replace hs := bmT1_cons hs
    obtain ⟨w2, s, rfl, hu, hs⟩ := hs
    split at g
    · rename_i K t n ty cs ho
      obtain ⟨p, c, rfl, hc, hm, hk, hg⟩ := bArr_ok ho hH q hu
      replace g := b_bif g
      obtain ⟨b1, g⟩ := g
      replace b1 := aBa b1
      obtain ⟨b1, b2⟩ := b1
      replace b2 := aBa b2
      obtain ⟨b2, b3⟩ := b2
      replace b3 := aBa b3
      obtain ⟨b3, b4⟩ := b3
      replace b4 := aBa b4
      obtain ⟨b4, b5⟩ := b4
      have et := aBt b1
      subst et
      obtain ⟨i1, i2, i3⟩ := bIx_ok b2 q ha
      have hT := bFit_ok b3 q hv
      rcases ty with ⟨lo, hi⟩ | ⟨k, K'⟩
      · cases b5
      · replace b5 := aBa b5
        obtain ⟨c1, c2⟩ := b5
        replace c1 := aBt c1
        replace c2 := aBt c2
        subst c1 c2
        obtain ⟨fr, rfl, f1⟩ := b_cm_ref hm (by decide)
        obtain ⟨n0, g0, G, D, N, O, A⟩ := S
        dsimp only at g
        rw [bFil_eq] at g
        have fin : ∀ (o : Option Nat), va_rf o = w → bHo ι h W (n0, g0, G, D, N, O, A) f (some (s, h.set p (.inl (4, n, .inr (.inr (.inr (.inr (va_up fr x.toNatClampNeg o)))))))) := by
          intro o ho
          have hcf : bCf W (bKp p (.inl (4, n, .inr (.inr (.inr (.inr fr)))))) (.inl (4, n, .inr (.inr (.inr (.inr fr))))) (.inl (4, n, .inr (.inr (.inr (.inr (va_up fr x.toNatClampNeg o)))))) := by
            refine ⟨rfl, rfl, fun hj => ?_⟩
            rw [hk, b4] at hj
            cases hj
          have hcm : bCm h (.inl (4, n, .inr (3, 113), cs)) (.inl (4, n, .inr (.inr (.inr (.inr (va_up fr x.toNatClampNeg o)))))) := by
            refine ⟨_, rfl, fun i hi => ?_⟩
            unfold va_up
            split
            · rw [ho]; exact hT
            · exact f1 i hi
          have hF := bFr_set hc hcf
          have hx := bEx_of hF
          refine ⟨ι, _, r, s, _, rfl, g, bLe_refl ι, bmS_heap q (bmO_arr q.2.2.2.2.1 hc hx) (bmA_arr (c := .inr (0, [])) (fun e he => q.2.2.2.2.2 e (List.mem_filter.mp he).1) hx (fun e he h0 z => ?_)), bmT1_mono (bLe_refl ι) hx hs, rfl, bH_set hH hc hcf (by rw [hk]; exact hg) hcm (bP_arr hH.2.2 hc (bP_tag hH.2.2 hc (by decide)).1 (bP_tag hH.2.2 hc (by decide)).2), hF⟩
          have m2 := (List.mem_filter.mp he).2
          rw [aBq, Bool.not_eq_true', decide_eq_false_iff_not] at m2
          apply m2
          rw [← hk, z]
          exact ((bOne_k h0 _).2).symm
        have hw : w = .null ∨ ∃ p, w = .ref p ∧ bIn h 113 p := hT
        rcases hw with rfl | ⟨q0, rfl, hq⟩
        · have e : sStAA (.null :: .int x :: .ref p :: s) h = some (s, h.set p (.inl (4, n, .inr (.inr (.inr (.inr (va_up fr x.toNatClampNeg none))))))) := by
            unfold sStAA
            dsimp only
            rw [hc]
            dsimp only
            rw [if_pos ⟨Or.inr rfl, i1⟩]
          rw [e]
          exact fin none rfl
        · have e : sStAA (.ref q0 :: .int x :: .ref p :: s) h = some (s, h.set p (.inl (4, n, .inr (.inr (.inr (.inr (va_up fr x.toNatClampNeg (some q0)))))))) := by
            unfold sStAA
            dsimp only
            rw [hc]
            dsimp only
            rw [if_pos ⟨b_isobj hH hq, i1⟩]
          rw [e]
          exact fin (some q0) rfl
    · cases g
  · cases g
theorem b_ofNat (k : Nat) : (Int32.ofNat k).toInt = (k : Int).bmod 4294967296 := Int32.toInt_ofNat' 
theorem bHeap_ok {ins : Instr} (g : bHeap W ins S st f = true) (hH : bH h) (q : bmS ι h S) (hs : bmT1 ι h st ws) : bHo ι h W S f (sHeap ins ws h) := by
  unfold bHeap at g
  split at g
  · exact bGet_ok g hH q hs
  · exact bPtf_ok g hH q hs
  · exact bLdv_ok (t := 0) g hH q hs
  · exact bLdv_ok (t := 2) g hH q hs
  · exact bLdv_ok (t := 1) g hH q hs
  · exact bLda_ok g hH q hs
  · exact bStv_ok (t := 0) g hH q hs (Or.inl rfl)
  · exact bStv_ok (t := 2) g hH q hs (Or.inr (Or.inr rfl))
  · exact bStv_ok (t := 1) g hH q hs (Or.inr (Or.inl rfl))
  · exact bSta_ok g hH q hs
  · split at g
    · rename_i v r
      replace hs := bmT1_cons hs
      obtain ⟨w2, s, rfl, hv, hs⟩ := hs
      split at g
      · rename_i K t n ty cs ho
        obtain ⟨p, c, rfl, hc, hm, hk, hg⟩ := bArr_ok ho hH q hv
        replace g := b_bif g
        obtain ⟨b1, g⟩ := g
        replace b1 := aBa b1
        obtain ⟨b1, b2⟩ := b1
        replace b1 := aBl b1
        replace b2 := aBl b2
        rw [aF_eq] at g
        have hd : ∃ d, c = .inl (t, n, d) := by
          rcases ty with ⟨lo, hi⟩ | ⟨k, K'⟩
          · obtain ⟨fi, rfl, -⟩ := b_cm_int hm
            exact ⟨_, rfl⟩
          · by_cases z : k = 0
            · subst z
              obtain ⟨fi, rfl⟩ := b_cm_long hm
              exact ⟨_, rfl⟩
            · obtain ⟨fi, rfl, -⟩ := b_cm_ref hm (by omega)
              exact ⟨_, rfl⟩
        obtain ⟨d, rfl⟩ := hd
        refine bHo_same (ws' := .int (Int32.ofNat n) :: s) g hH q ?_ ⟨⟨_, rfl, Int32.toInt_ofNat_of_lt (by omega)⟩, hs⟩
        show sALen (.ref p :: s) h = _
        unfold sALen
        dsimp only
        rw [hc]
        dsimp only
        rw [if_pos b1]
      · cases g
    · cases g
  · exact bHo_same g hH q rfl ⟨⟨_, rfl⟩, hs⟩
  · rename_i k
    cases h1 : Nat.blt k 2147483648 with
    | true =>
      rw [h1] at g
      replace h1 := aBl h1
      exact bHo_same g hH q (if_pos (by omega)) ⟨⟨_, rfl, Int32.toInt_ofNat_of_lt (by omega)⟩, hs⟩
    | false =>
      rw [h1] at g
      dsimp only [cond] at g
      have h1' : ¬ k < 2147483648 := fun z => by
        rw [show Nat.blt k 2147483648 = true from Nat.ble_eq_true_of_le z] at h1
        cases h1
      cases h2 : Nat.blt k 4294967296 with
      | true =>
        rw [h2] at g
        replace h2 := aBl h2
        dsimp only [cond] at g
        rw [aF_eq] at g
        refine bHo_same g hH q (if_pos h2) ⟨⟨_, rfl, ?_⟩, hs⟩
        show (Int32.ofNat k).toInt = Int.negSucc (4294967295 - k)
        rw [b_ofNat k]
        rw [Int.negSucc_eq]
        have e : (k : Int).bmod 4294967296 = (k : Int) - 4294967296 := by
          rw [Int.bmod_def]
          omega
        rw [e]
        omega
      | false =>
        rw [h2] at g
        dsimp only [cond] at g
        have h2' : ¬ k < 4294967296 := fun z => by
          rw [show Nat.blt k 4294967296 = true from Nat.ble_eq_true_of_le z] at h2
          cases h2
        obtain ⟨h3, g⟩ := b_bif g
        replace h3 := aBl h3
        rw [aF_eq] at g
        refine bHo_same g hH q ((if_neg h2').trans (if_pos h3)) ⟨⟨_, rfl, Or.inr (Or.inr ⟨by omega, ?_⟩)⟩, hs⟩
        omega
  · rename_i k
    cases h1 : Nat.blt k 2147483648 with
    | true =>
      rw [h1] at g
      replace h1 := aBl h1
      exact bHo_same g hH q rfl ⟨⟨_, rfl, Int32.toInt_ofNat_of_lt (by omega)⟩, hs⟩
    | false =>
      rw [h1] at g
      dsimp only [cond] at g
      have h1' : ¬ k < 2147483648 := fun z => by
        rw [show Nat.blt k 2147483648 = true from Nat.ble_eq_true_of_le z] at h1
        cases h1
      cases h2 : Nat.blt k 4294967296 with
      | true =>
        rw [h2] at g
        replace h2 := aBl h2
        dsimp only [cond] at g
        rw [aF_eq] at g
        refine bHo_same g hH q rfl ⟨⟨_, rfl, ?_⟩, hs⟩
        show (Int32.ofNat k).toInt = Int.negSucc (4294967295 - k)
        rw [b_ofNat k]
        rw [Int.negSucc_eq]
        have e : (k : Int).bmod 4294967296 = (k : Int) - 4294967296 := by
          rw [Int.bmod_def]
          omega
        rw [e]
        omega
      | false =>
        rw [h2] at g
        dsimp only [cond] at g
        cases g
  · cases g
end HEAP
