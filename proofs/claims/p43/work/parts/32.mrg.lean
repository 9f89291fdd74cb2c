section
/-! ===== the second executor: numbers, locals ===== -/
abbrev bLo : Type := List (Option bV)
def bJk (v : bV) : Bool := match v with
  | .inr (t, _) => Nat.beq t 0
  | _ => false
theorem bJk_ok {ι : List Value} {h : sHp} {v : bV} {w : Value} (g : bJk v = true) (q : bmV ι h v w) : ∃ x, w = .long x := by
  rcases v with a | ⟨t, K⟩
  · cases g
  · have e : t = 0 := aBt g
    subst e
    exact q
theorem bmV_cat {ι : List Value} {h : sHp} {v : bV} {w : Value} (q : bmV ι h v w) : w.category = bif bJk v then 2 else 1 := by
  rcases v with a | ⟨t, K⟩
  · obtain ⟨x, rfl, -⟩ := q
    rfl
  · match t, q with
    | 0, q =>
      obtain ⟨x, rfl⟩ := q
      rfl
    | 1, q =>
      have e : w = .null := q
      subst e
      rfl
    | 2, q =>
      obtain ⟨p, rfl, -⟩ := q
      rfl
    | k + 3, q =>
      obtain ⟨-, rfl | ⟨p, rfl, -⟩⟩ := q <;> rfl
theorem bmV_nd {ι : List Value} {h : sHp} {v : bV} {w : Value} (q : bmV ι h v w) : sNd w = true := by
  rcases v with a | ⟨t, K⟩
  · obtain ⟨x, rfl, -⟩ := q
    rfl
  · match t, q with
    | 0, q =>
      obtain ⟨x, rfl⟩ := q
      rfl
    | 1, q =>
      have e : w = .null := q
      subst e
      rfl
    | 2, q =>
      obtain ⟨p, rfl, -⟩ := q
      rfl
    | k + 3, q =>
      obtain ⟨-, rfl | ⟨p, rfl, -⟩⟩ := q <;> rfl
def bmT1 (ι : List Value) (h : sHp) : List bV → List Value → Prop
  | [], [] => True
  | v :: r, w :: s => bmV ι h v w ∧ bmT1 ι h r s
  | _, _ => False
theorem bmT1_mono {ι ι' : List Value} {h h' : sHp} (a : bLe ι ι') (b : bEx h h') : ∀ {st : List bV} {ws : List Value}, bmT1 ι h st ws → bmT1 ι' h' st ws := by
  intro st
  induction st with
  | nil =>
    intro ws q
    cases ws with
    | nil => trivial
    | cons w s => exact q.elim
  | cons v r ih =>
    intro ws q
    cases ws with
    | nil => exact q.elim
    | cons w s => exact ⟨bmV_mono a b q.1, ih q.2⟩
theorem bmT1_cons {ι : List Value} {h : sHp} {v : bV} {r : List bV} {ws : List Value} (q : bmT1 ι h (v :: r) ws) : ∃ w s, ws = w :: s ∧ bmV ι h v w ∧ bmT1 ι h r s := by
  cases ws with
  | nil => exact q.elim
  | cons w s => exact ⟨w, s, rfl, q.1, q.2⟩
theorem bmT1_nil {ι : List Value} {h : sHp} {ws : List Value} (q : bmT1 ι h [] ws) : ws = [] := by
  cases ws with
  | nil => rfl
  | cons w s => exact q.elim
def bmL (ι : List Value) (h : sHp) (L : bLo) (vL : sLo) : Prop := L.length = vL.length ∧ ∀ (i : Nat) (v : bV), L[i]? = some (some v) → ∃ w : Value, vL[i]? = some (some w) ∧ bmV ι h v w
theorem bmL_mono {ι ι' : List Value} {h h' : sHp} (a : bLe ι ι') (b : bEx h h') {L : bLo} {vL : sLo} (q : bmL ι h L vL) : bmL ι' h' L vL := ⟨q.1, fun i v hv => by
  obtain ⟨w, h1, h2⟩ := q.2 i v hv
  exact ⟨w, h1, bmV_mono a b h2⟩⟩
/-! binary operations on ints -/
def bNz (q : Int × Int) : Bool := decide (0 < q.1) || decide (q.2 < 0)
def bIo (ins : Instr) (p q : Int × Int) : Option (Int × Int) := match ins with
  | .iadd => some (aRg (p.1 + q.1, p.2 + q.2))
  | .isub => some (aRg (p.1 - q.2, p.2 - q.1))
  | .imul => some (aMl p q)
  | .iand => some (if 0 ≤ q.1 then (0, q.2) else if 0 ≤ p.1 then (0, p.2) else aFull)
  | .ior => some aFull
  | .ixor => some aFull
  | .ishl => some aFull
  | .ishr => some aFull
  | .idiv => bif bNz q then some (if q.1 = q.2 then aDv p q.1 else aFull) else none
  | .irem => bif bNz q then some (if 0 < q.1 then (if 0 ≤ p.1 then (0, q.2 - 1) else (1 - q.2, q.2 - 1)) else aFull) else none
  | _ => none
theorem bIo_ok {ins : Instr} {p q r : Int × Int} (g : bIo ins p q = some r) {x y : Int32} (hx : aW x.toInt p) (hy : aW y.toInt q) : ∃ z, (∀ st, sPure ins (.int y :: .int x :: st) = some (.int z :: st)) ∧ aW z.toInt r := by
  unfold bIo at g
  split at g
  · cases g
    refine ⟨x + y, fun _ => rfl, aRg_ok (Int32.toInt_add _ _) ?_⟩
    unfold aW at hx hy ⊢
    dsimp only
    omega
  · cases g
    refine ⟨x - y, fun _ => rfl, aRg_ok (Int32.toInt_sub _ _) ?_⟩
    unfold aW at hx hy ⊢
    dsimp only
    omega
  · cases g
    exact ⟨x * y, fun _ => rfl, aMl_ok (Int32.toInt_mul _ _) hx hy⟩
  · cases g
    refine ⟨x &&& y, fun _ => rfl, ?_⟩
    have a1 := aAn_ok x y
    have a2 := aAn_ok y x
    rw [Int32.and_comm y x] at a2
    unfold aW at hx hy
    split
    · unfold aAn at a1
      rw [if_pos (by omega)] at a1
      unfold aW at a1 ⊢
      dsimp only at a1 ⊢
      omega
    · split
      · unfold aAn at a2
        rw [if_pos (by omega)] at a2
        unfold aW at a2 ⊢
        dsimp only at a2 ⊢
        omega
      · exact aFull_ok _
  · cases g; exact ⟨x ||| y, fun _ => rfl, aFull_ok _⟩
  · cases g; exact ⟨x ^^^ y, fun _ => rfl, aFull_ok _⟩
  · cases g; exact ⟨x <<< (y &&& 31), fun _ => rfl, aFull_ok _⟩
  · cases g; exact ⟨x >>> (y &&& 31), fun _ => rfl, aFull_ok _⟩
  · obtain ⟨b, g⟩ := aBf g
    cases g
    have hy0 : ¬ y = 0 := by
      intro z
      unfold bNz at b
      rw [Bool.or_eq_true, decide_eq_true_eq, decide_eq_true_eq] at b
      unfold aW at hy
      rw [z] at hy
      have e0 : (0 : Int32).toInt = 0 := rfl
      omega
    refine ⟨x / y, fun st => ?_, ?_⟩
    · show s2i (fun x y => if y = 0 then none else some (.int (x / y))) (.int y :: .int x :: st) = _
      unfold s2i
      dsimp only
      rw [if_neg hy0]
      rfl
    · split
      · rename_i e
        unfold aW at hy
        have e2 : y.toInt = q.1 := by omega
        rw [← e2]
        exact aDv_ok hx
      · exact aFull_ok _
  · obtain ⟨b, g⟩ := aBf g
    cases g
    have hy0 : ¬ y = 0 := by
      intro z
      unfold bNz at b
      rw [Bool.or_eq_true, decide_eq_true_eq, decide_eq_true_eq] at b
      unfold aW at hy
      rw [z] at hy
      have e0 : (0 : Int32).toInt = 0 := rfl
      omega
    refine ⟨x - x / y * y, fun st => ?_, ?_⟩
    · show s2i (fun x y => if y = 0 then none else some (.int (x - x / y * y))) (.int y :: .int x :: st) = _
      unfold s2i
      dsimp only
      rw [if_neg hy0]
      rfl
    · split
      · rename_i e
        unfold aW at hx hy
        have hp : 0 < y.toInt := by omega
        rw [a_rem hp]
        have h1 := Int.tmod_lt_of_pos x.toInt hp
        have h7 := Int.tmod_lt_of_pos (-x.toInt) hp
        rw [Int.neg_tmod] at h7
        split
        · have h2 := Int.tmod_nonneg y.toInt (a := x.toInt) (by omega)
          unfold aW
          dsimp only
          omega
        · unfold aW
          dsimp only
          omega
      · exact aFull_ok _
  · cases g
/-- a number and a known one -/
def bAdd (S : bS) (a : bN) (c : Int) (f : bS → bN → Bool) : Bool := match bI S a with
  | (x, y) => bif decide (-2147483648 ≤ x + c) && decide (y + c ≤ 2147483647) then bNew (x + c) (y + c) S (fun S1 b => match a with
    | .inr _ => f S1 b
    | .inl j => (match b with
      | .inr _ => f S1 b
      | .inl i => (match S1 with
        | (n, g, G, D, r) => f (n, g, G, (i, j, c) :: D, r) b))) else bNew (-2147483648) 2147483647 S f
theorem bAdd_ok {ι : List Value} {h : sHp} {S : bS} {a : bN} {c : Int} {f : bS → bN → Bool} (g : bAdd S a c f = true) (q : bmS ι h S) {x z : Int32} (hx : bmI ι a x) (hz : z.toInt = (x.toInt + c).bmod (2 ^ 32)) : ∃ ι' S' b, f S' b = true ∧ bLe ι ι' ∧ bmS ι' h S' ∧ bmI ι' b z ∧ S'.2.1 = S.2.1 := by
  have h0 := bI_ok q hx
  unfold bAdd at g
  generalize bI S a = p at g h0
  obtain ⟨lo, hi⟩ := p
  unfold aW at h0
  dsimp only at g h0
  cases hb : (decide (-2147483648 ≤ lo + c) && decide (hi + c ≤ 2147483647)) with
  | false =>
    rw [hb] at g
    exact bNew_ok g q (aFull_ok z)
  | true =>
    rw [hb] at g
    dsimp only [cond] at g
    obtain ⟨b1, b2⟩ := aBa hb
    have b1 := of_decide_eq_true b1
    have b2 := of_decide_eq_true b2
    have e : z.toInt = x.toInt + c := by
      rw [hz]
      exact Int.bmod_eq_of_le (by omega) (by omega)
    obtain ⟨ι', S', b, g1, g2, g3, g4, g5⟩ := bNew_ok g q (x := z) (by unfold aW; dsimp only; omega)
    cases a with
    | inr _ => exact ⟨ι', S', b, g1, g2, g3, g4, g5⟩
    | inl j =>
      cases b with
      | inr _ => exact ⟨ι', S', _, g1, g2, g3, g4, g5⟩
      | inl i =>
        obtain ⟨n, g0, G, D, r⟩ := S'
        refine ⟨ι', _, .inl i, g1, g2, ⟨g3.1, g3.2.1, ?_, g3.2.2.2⟩, g4, g5⟩
        intro e' he
        have he : e' ∈ (i, j, c) :: D := he
        rcases List.mem_cons.mp he with rfl | he
        · exact ⟨z, x, g4, bLe_at g2 hx, e⟩
        · exact g3.2.2.1 e' he
def bCi (n : Int) (S : bS) (st : List bV) (f : bS → List bV → Bool) : Bool := aFc n fun n => f S (.inl (.inr n) :: st)
def bPure (ins : Instr) (S : bS) (st : List bV) (f : bS → List bV → Bool) : Bool := match ins with
  | .iconst n => bif decide (-1 ≤ n) && decide (n ≤ 5) then bCi n S st f else false
  | .bipush n => bif decide (-128 ≤ n) && decide (n ≤ 127) then bCi n S st f else false
  | .sipush n => bif decide (-32768 ≤ n) && decide (n ≤ 32767) then bCi n S st f else false
  | .lconst _ => f S (.inr (0, 0) :: st)
  | .aconst_null => f S (.inr (1, 0) :: st)
  | .lcmp => (match st with
    | a :: b :: r => bif bJk a && bJk b then bNew (-1) 1 S (fun S x => f S (.inl x :: r)) else false
    | _ => false)
  | .i2l => (match st with
    | .inl _ :: r => f S (.inr (0, 0) :: r)
    | _ => false)
  | .l2i => (match st with
    | a :: r => bif bJk a then bNew (-2147483648) 2147483647 S (fun S x => f S (.inl x :: r)) else false
    | _ => false)
  | .i2b => (match st with
    | .inl _ :: r => bNew (-2147483648) 2147483647 S (fun S x => f S (.inl x :: r))
    | _ => false)
  | .i2s => (match st with
    | .inl _ :: r => bNew (-2147483648) 2147483647 S (fun S x => f S (.inl x :: r))
    | _ => false)
  | .ineg => (match st with
    | .inl a :: r => (match bI S a with
      | (x, y) => (match aRg (-y, -x) with
        | (u, v) => bNew u v S (fun S x => f S (.inl x :: r))))
    | _ => false)
  | .lneg => (match st with
    | a :: r => bif bJk a then f S (.inr (0, 0) :: r) else false
    | _ => false)
  | .ladd => (match st with
    | a :: b :: r => bif bJk a && bJk b then f S (.inr (0, 0) :: r) else false
    | _ => false)
  | .lsub => (match st with
    | a :: b :: r => bif bJk a && bJk b then f S (.inr (0, 0) :: r) else false
    | _ => false)
  | .land => (match st with
    | a :: b :: r => bif bJk a && bJk b then f S (.inr (0, 0) :: r) else false
    | _ => false)
  | .lor => (match st with
    | a :: b :: r => bif bJk a && bJk b then f S (.inr (0, 0) :: r) else false
    | _ => false)
  | .lxor => (match st with
    | a :: b :: r => bif bJk a && bJk b then f S (.inr (0, 0) :: r) else false
    | _ => false)
  | .lshl => (match st with
    | .inl _ :: b :: r => bif bJk b then f S (.inr (0, 0) :: r) else false
    | _ => false)
  | .lshr => (match st with
    | .inl _ :: b :: r => bif bJk b then f S (.inr (0, 0) :: r) else false
    | _ => false)
  | .lushr => (match st with
    | .inl _ :: b :: r => bif bJk b then f S (.inr (0, 0) :: r) else false
    | _ => false)
  | .dup => (match st with
    | a :: r => bif bJk a then false else f S (a :: a :: r)
    | _ => false)
  | .dup_x1 => (match st with
    | a :: b :: r => bif bJk a || bJk b then false else f S (a :: b :: a :: r)
    | _ => false)
  | .dup2 => (match st with
    | a :: b :: r => bif bJk a || bJk b then false else f S (a :: b :: a :: b :: r)
    | _ => false)
  | .pop => (match st with
    | a :: r => bif bJk a then false else f S r
    | _ => false)
  | .pop2 => (match st with
    | a :: r => bif bJk a then f S r else false
    | _ => false)
  | .iadd => (match st with
    | .inl (.inr c) :: .inl a :: r => bAdd S a c (fun S x => f S (.inl x :: r))
    | .inl b :: .inl a :: r => (match bIo .iadd (bI S a) (bI S b) with
      | some (u, v) => bNew u v S (fun S x => f S (.inl x :: r))
      | none => false)
    | _ => false)
  | ins => (match st with
    | .inl b :: .inl a :: r => (match bIo ins (bI S a) (bI S b) with
      | some (u, v) => bNew u v S (fun S x => f S (.inl x :: r))
      | none => false)
    | _ => false)
/-- what a step of the values alone gives -/
def bPo (ι : List Value) (h : sHp) (S : bS) (f : bS → List bV → Bool) (o : Option (List Value)) : Prop := ∃ ι' S' st' ws', o = some ws' ∧ f S' st' = true ∧ bLe ι ι' ∧ bmS ι' h S' ∧ bmT1 ι' h st' ws' ∧ S'.2.1 = S.2.1
theorem bPo_new {ι : List Value} {h : sHp} {S : bS} {u v : Int} {r : List bV} {rs : List Value} {f : bS → List bV → Bool} {o : Option (List Value)} (g : bNew u v S (fun S x => f S (.inl x :: r)) = true) (q : bmS ι h S) (hr : bmT1 ι h r rs) {z : Int32} (hz : aW z.toInt (u, v)) (ho : o = some (.int z :: rs)) : bPo ι h S f o := by
  obtain ⟨ι', S', a, g1, g2, g3, g4, g5⟩ := bNew_ok g q hz
  exact ⟨ι', S', _, _, ho, g1, g2, g3, ⟨⟨z, rfl, g4⟩, bmT1_mono g2 (bEx_refl h) hr⟩, g5⟩
theorem bPo_same {ι : List Value} {h : sHp} {S : bS} {st' : List bV} {ws' : List Value} {f : bS → List bV → Bool} {o : Option (List Value)} (g : f S st' = true) (q : bmS ι h S) (ho : o = some ws') (hr : bmT1 ι h st' ws') : bPo ι h S f o := ⟨ι, S, st', ws', ho, g, bLe_refl ι, q, hr, rfl⟩
theorem b_iconst {n : Int} (h1 : -2147483648 ≤ n) (h2 : n ≤ 2147483647) : (Int32.ofInt n).toInt = n := by
  exact Int32.toInt_ofInt_of_le (by omega) (by omega)
theorem b_two {st : List bV} {P : Prop} {c : bV → bV → Bool} {f : List bV → Bool} {ws : List Value} {ι : List Value} {h : sHp} (g : (match st with
    | a :: b :: r => bif c a b then f (.inr (0, 0) :: r) else false
    | _ => false) = true) (hs : bmT1 ι h st ws) (k : ∀ a b r x y s, st = a :: b :: r → ws = x :: y :: s → c a b = true → f (.inr (0, 0) :: r) = true → bmV ι h a x → bmV ι h b y → bmT1 ι h r s → P) : P := by
  split at g
  · rename_i a b r
    replace hs := bmT1_cons hs
    obtain ⟨x, s1, rfl, hx, hs⟩ := hs
    replace hs := bmT1_cons hs
    obtain ⟨y, s, rfl, hy, hs⟩ := hs
    cases hc : c a b with
    | true => rw [hc] at g; exact k a b r x y s rfl rfl hc g hx hy hs
    | false => rw [hc] at g; cases g
  · cases g
theorem bPo_int {ι : List Value} {h : sHp} {S : bS} {st : List bV} {ws : List Value} {n : Int} {f : bS → List bV → Bool} {o : Option (List Value)} (g : bCi n S st f = true) (q : bmS ι h S) (hs : bmT1 ι h st ws) {z : Int32} (hz : z.toInt = n) (ho : o = some (.int z :: ws)) : bPo ι h S f o := by
  unfold bCi at g
  rw [aFc_eq] at g
  exact bPo_same g q ho ⟨⟨z, rfl, hz⟩, hs⟩
theorem b_bif {c : Bool} {a : Bool} (h : (bif c then a else false) = true) : c = true ∧ a = true := by
  cases c with
  | true => exact ⟨rfl, h⟩
  | false => cases h
theorem b_bifn {c : Bool} {a : Bool} (h : (bif c then false else a) = true) : c = false ∧ a = true := by
  cases c with
  | false => exact ⟨rfl, h⟩
  | true => cases h
theorem b_cat1 {ι : List Value} {h : sHp} {v : bV} {w : Value} (q : bmV ι h v w) (g : bJk v = false) : w.category = 1 := by rw [bmV_cat q, g]; rfl
theorem b_orf {a b : Bool} (h : (a || b) = false) : a = false ∧ b = false := by cases a <;> cases b <;> first | exact ⟨rfl, rfl⟩ | cases h
theorem bPure_jj {ι : List Value} {h : sHp} {S : bS} {st : List bV} {ws : List Value} {f : bS → List bV → Bool} {ins : Instr} {F : Int64 → Int64 → Int64} (g : (match st with
    | a :: b :: r => bif bJk a && bJk b then f S (.inr (0, 0) :: r) else false
    | _ => false) = true) (q : bmS ι h S) (hs : bmT1 ι h st ws) (hF : ∀ x y s, sPure ins (.long y :: .long x :: s) = some (.long (F x y) :: s)) : bPo ι h S f (sPure ins ws) := by
  split at g
  · rename_i a b r
    obtain ⟨g1, g⟩ := b_bif g
    obtain ⟨g1, g2⟩ := aBa g1
    replace hs := bmT1_cons hs
    obtain ⟨w, s1, rfl, hx, hs⟩ := hs
    replace hs := bmT1_cons hs
    obtain ⟨v, s, rfl, hy, hs⟩ := hs
    obtain ⟨y, rfl⟩ := bJk_ok g1 hx
    obtain ⟨x, rfl⟩ := bJk_ok g2 hy
    exact bPo_same g q (hF x y s) ⟨⟨_, rfl⟩, hs⟩
  · cases g
theorem bPure_ij {ι : List Value} {h : sHp} {S : bS} {st : List bV} {ws : List Value} {f : bS → List bV → Bool} {ins : Instr} {F : Int64 → Int32 → Int64} (g : (match st with
    | .inl _ :: b :: r => bif bJk b then f S (.inr (0, 0) :: r) else false
    | _ => false) = true) (q : bmS ι h S) (hs : bmT1 ι h st ws) (hF : ∀ x y s, sPure ins (.int y :: .long x :: s) = some (.long (F x y) :: s)) : bPo ι h S f (sPure ins ws) := by
  split at g
  · rename_i a b r
    obtain ⟨g1, g⟩ := b_bif g
    replace hs := bmT1_cons hs
    obtain ⟨w, s1, rfl, hx, hs⟩ := hs
    replace hs := bmT1_cons hs
    obtain ⟨v, s, rfl, hy, hs⟩ := hs
    obtain ⟨y, rfl, -⟩ := hx
    obtain ⟨x, rfl⟩ := bJk_ok g1 hy
    exact bPo_same g q (hF x y s) ⟨⟨_, rfl⟩, hs⟩
  · cases g
theorem bPure_i {ι : List Value} {h : sHp} {S : bS} {st : List bV} {ws : List Value} {f : bS → List bV → Bool} {ins : Instr} {F : Int32 → Int32} (g : (match st with
    | .inl _ :: r => bNew (-2147483648) 2147483647 S (fun S x => f S (.inl x :: r))
    | _ => false) = true) (q : bmS ι h S) (hs : bmT1 ι h st ws) (hF : ∀ x s, sPure ins (.int x :: s) = some (.int (F x) :: s)) : bPo ι h S f (sPure ins ws) := by
  split at g
  · rename_i a r
    replace hs := bmT1_cons hs
    obtain ⟨w, s1, rfl, hx, hs⟩ := hs
    obtain ⟨x, rfl, -⟩ := hx
    exact bPo_new g q hs (aFull_ok (F x)) (hF x s1)
  · cases g
theorem bPure_2 {ι : List Value} {h : sHp} {S : bS} {a b : bN} {r : List bV} {ws : List Value} {f : bS → List bV → Bool} {ins : Instr} (g : (match bIo ins (bI S a) (bI S b) with
      | some (u, v) => bNew u v S (fun S x => f S (.inl x :: r))
      | none => false) = true) (q : bmS ι h S) (hs : bmT1 ι h (.inl b :: .inl a :: r) ws) : bPo ι h S f (sPure ins ws) := by
  replace hs := bmT1_cons hs
  obtain ⟨w, s1, rfl, hx, hs⟩ := hs
  replace hs := bmT1_cons hs
  obtain ⟨v, s, rfl, hy, hs⟩ := hs
  obtain ⟨y, rfl, hb⟩ := hx
  obtain ⟨x, rfl, ha⟩ := hy
  split at g
  · rename_i u v hi
    obtain ⟨z, hz, hw⟩ := bIo_ok hi (bI_ok q ha) (bI_ok q hb)
    exact bPo_new g q hs hw (hz s)
  · cases g
theorem bPure_ok {ι : List Value} {h : sHp} {ins : Instr} {S : bS} {st : List bV} {ws : List Value} {f : bS → List bV → Bool} (g : bPure ins S st f = true) (q : bmS ι h S) (hs : bmT1 ι h st ws) : bPo ι h S f (sPure ins ws) := by
  unfold bPure at g
  split at g
  · rename_i n
    obtain ⟨g1, g⟩ := b_bif g
    obtain ⟨g1, g2⟩ := aBa g1
    have g1 := of_decide_eq_true g1
    have g2 := of_decide_eq_true g2
    exact bPo_int g q hs (z := Int32.ofInt n) (Int32.toInt_ofInt_of_le (by omega) (by omega)) rfl
  · rename_i n
    obtain ⟨g1, g⟩ := b_bif g
    obtain ⟨g1, g2⟩ := aBa g1
    have g1 := of_decide_eq_true g1
    have g2 := of_decide_eq_true g2
    exact bPo_int g q hs (z := (Int8.ofInt n).toInt32) (by rw [Int8.toInt_toInt32]; exact Int8.toInt_ofInt_of_le (by omega) (by omega)) rfl
  · rename_i n
    obtain ⟨g1, g⟩ := b_bif g
    obtain ⟨g1, g2⟩ := aBa g1
    have g1 := of_decide_eq_true g1
    have g2 := of_decide_eq_true g2
    exact bPo_int g q hs (z := (Int16.ofInt n).toInt32) (by rw [Int16.toInt_toInt32]; exact Int16.toInt_ofInt_of_le (by omega) (by omega)) rfl
  · exact bPo_same g q rfl ⟨⟨_, rfl⟩, hs⟩
  · exact bPo_same g q rfl ⟨rfl, hs⟩
  · split at g
    · rename_i a b r
      obtain ⟨g1, g⟩ := b_bif g
      obtain ⟨g1, g2⟩ := aBa g1
      replace hs := bmT1_cons hs
      obtain ⟨w, s1, rfl, hx, hs⟩ := hs
      replace hs := bmT1_cons hs
      obtain ⟨v, s, rfl, hy, hs⟩ := hs
      obtain ⟨y, rfl⟩ := bJk_ok g1 hx
      obtain ⟨x, rfl⟩ := bJk_ok g2 hy
      exact bPo_new g q hs (aCm_ok x y) rfl
    · cases g
  · split at g
    · rename_i a r
      replace hs := bmT1_cons hs
      obtain ⟨w, s1, rfl, hx, hs⟩ := hs
      obtain ⟨x, rfl, -⟩ := hx
      exact bPo_same g q rfl ⟨⟨_, rfl⟩, hs⟩
    · cases g
  · split at g
    · rename_i a r
      obtain ⟨g1, g⟩ := b_bif g
      replace hs := bmT1_cons hs
      obtain ⟨w, s1, rfl, hx, hs⟩ := hs
      obtain ⟨x, rfl⟩ := bJk_ok g1 hx
      exact bPo_new g q hs (aFull_ok _) rfl
    · cases g
  · exact bPure_i (F := fun x => x.toInt8.toInt32) g q hs (fun _ _ => rfl)
  · exact bPure_i (F := fun x => x.toInt16.toInt32) g q hs (fun _ _ => rfl)
  · split at g
    · rename_i a r
      replace hs := bmT1_cons hs
      obtain ⟨w, s1, rfl, hx, hs⟩ := hs
      obtain ⟨x, rfl, hx⟩ := hx
      have h0 := bI_ok q hx
      generalize bI S a = p at g h0
      obtain ⟨lo, hi⟩ := p
      dsimp only at g
      have h1 : aW (-x).toInt (aRg (-hi, -lo)) := aRg_ok (Int32.toInt_neg x) (by unfold aW at h0 ⊢; dsimp only at h0 ⊢; omega)
      generalize aRg (-hi, -lo) = p at g h1
      obtain ⟨u, v⟩ := p
      exact bPo_new g q hs h1 rfl
    · cases g
  · split at g
    · rename_i a r
      obtain ⟨g1, g⟩ := b_bif g
      replace hs := bmT1_cons hs
      obtain ⟨w, s1, rfl, hx, hs⟩ := hs
      obtain ⟨x, rfl⟩ := bJk_ok g1 hx
      exact bPo_same g q rfl ⟨⟨_, rfl⟩, hs⟩
    · cases g
  · exact bPure_jj (F := fun x y => x + y) g q hs (fun _ _ _ => rfl)
  · exact bPure_jj (F := fun x y => x - y) g q hs (fun _ _ _ => rfl)
  · exact bPure_jj (F := fun x y => x &&& y) g q hs (fun _ _ _ => rfl)
  · exact bPure_jj (F := fun x y => x ||| y) g q hs (fun _ _ _ => rfl)
  · exact bPure_jj (F := fun x y => x ^^^ y) g q hs (fun _ _ _ => rfl)
  · exact bPure_ij (F := fun x y => x <<< (y.toInt64 &&& 63)) g q hs (fun _ _ _ => rfl)
  · exact bPure_ij (F := fun x y => x >>> (y.toInt64 &&& 63)) g q hs (fun _ _ _ => rfl)
  · exact bPure_ij (F := fun x y => (x.toUInt64 >>> (y.toInt64.toUInt64 &&& Int64.toUInt64 63)).toInt64) g q hs (fun _ _ _ => rfl)
  · split at g
    · rename_i a r
      obtain ⟨g1, g⟩ := b_bifn g
      replace hs := bmT1_cons hs
      obtain ⟨w, s1, rfl, hx, hs⟩ := hs
      exact bPo_same g q (if_pos (b_cat1 hx g1)) ⟨hx, hx, hs⟩
    · cases g
  · split at g
    · rename_i a b r
      obtain ⟨g1, g⟩ := b_bifn g
      obtain ⟨g1, g2⟩ := b_orf g1
      replace hs := bmT1_cons hs
      obtain ⟨w, s1, rfl, hx, hs⟩ := hs
      replace hs := bmT1_cons hs
      obtain ⟨v, s, rfl, hy, hs⟩ := hs
      exact bPo_same g q (if_pos ⟨b_cat1 hx g1, b_cat1 hy g2⟩) ⟨hx, hy, hx, hs⟩
    · cases g
  · split at g
    · rename_i a b r
      obtain ⟨g1, g⟩ := b_bifn g
      obtain ⟨g1, g2⟩ := b_orf g1
      replace hs := bmT1_cons hs
      obtain ⟨w, s1, rfl, hx, hs⟩ := hs
      replace hs := bmT1_cons hs
      obtain ⟨v, s, rfl, hy, hs⟩ := hs
      exact bPo_same g q (if_pos ⟨b_cat1 hx g1, b_cat1 hy g2⟩) ⟨hx, hy, hx, hy, hs⟩
    · cases g
  · split at g
    · rename_i a r
      obtain ⟨g1, g⟩ := b_bifn g
      replace hs := bmT1_cons hs
      obtain ⟨w, s1, rfl, hx, hs⟩ := hs
      exact bPo_same g q (if_pos (b_cat1 hx g1)) hs
    · cases g
  · split at g
    · rename_i a r
      replace hs := bmT1_cons hs
      obtain ⟨w, s1, rfl, hx, hs⟩ := hs
      obtain ⟨g1, g⟩ := b_bif g
      exact bPo_same g q (if_pos (by rw [bmV_cat hx, g1]; rfl)) hs
    · cases g
  · split at g
    · rename_i c a r
      replace hs := bmT1_cons hs
      obtain ⟨w, s1, rfl, hx, hs⟩ := hs
      replace hs := bmT1_cons hs
      obtain ⟨v, s, rfl, hy, hs⟩ := hs
      obtain ⟨y, rfl, hb⟩ := hx
      obtain ⟨x, rfl, ha⟩ := hy
      have hc : y.toInt = c := hb
      obtain ⟨ι', S', b, g1, g2, g3, g4, g5⟩ := bAdd_ok (z := x + y) g q ha (by rw [Int32.toInt_add, hc])
      exact ⟨ι', S', _, _, rfl, g1, g2, g3, ⟨⟨_, rfl, g4⟩, bmT1_mono g2 (bEx_refl h) hs⟩, g5⟩
    · exact bPure_2 g q hs
    · cases g
  · split at g
    · exact bPure_2 g q hs
    · cases g
/-! locals -/
def bSet {α : Type} : List α → Nat → α → (List α → Bool) → Bool
  | [], _, _, f => f []
  | a :: r, n, v, f => (match n with
    | 0 => f (v :: r)
    | m + 1 => bSet r m v (fun r' => f (a :: r')))
theorem bSet_eq {α : Type} : ∀ (l : List α) (n : Nat) (v : α) (f : List α → Bool), bSet l n v f = f (l.set n v) := by
  intro l
  induction l with
  | nil => intro n v f; rfl
  | cons a r ih =>
    intro n v f
    cases n with
    | zero => rfl
    | succ m => exact ih m v (fun r' => f (a :: r'))
def bIsL (o : Option (Option bV)) : Bool := match o with
  | some (some v) => bJk v
  | _ => false
def bKil (L : bLo) (i : Nat) (f : bLo → Bool) : Bool := match i with
  | 0 => f L
  | j + 1 => bif bIsL (aNth L j) then bSet L j none f else f L
def bPut (L : bLo) (i : Nat) (v : bV) (f : bLo → Bool) : Bool := bKil L i fun L1 => bSet L1 i (some v) f
def bPutL (L : bLo) (i : Nat) (v : bV) (f : bLo → Bool) : Bool := bPut L i v fun L1 => bSet L1 (i + 1) none f
theorem bmL_none {ι : List Value} {h : sHp} {L : bLo} {vL : sLo} (q : bmL ι h L vL) (i : Nat) (o : Option Value) : bmL ι h (L.set i none) (vL.set i o) := by
  refine ⟨by rw [List.length_set, List.length_set]; exact q.1, fun j v hv => ?_⟩
  rw [List.getElem?_set] at hv
  split at hv
  · split at hv <;> cases hv
  · rename_i e
    rw [List.getElem?_set_ne e]
    exact q.2 j v hv
theorem bmL_none' {ι : List Value} {h : sHp} {L : bLo} {vL : sLo} (q : bmL ι h L vL) (i : Nat) : bmL ι h (L.set i none) vL := by
  refine ⟨by rw [List.length_set]; exact q.1, fun j v hv => ?_⟩
  rw [List.getElem?_set] at hv
  split at hv
  · split at hv <;> cases hv
  · exact q.2 j v hv
theorem bmL_some {ι : List Value} {h : sHp} {L : bLo} {vL : sLo} (q : bmL ι h L vL) (i : Nat) {v : bV} {w : Value} (hv : bmV ι h v w) : bmL ι h (L.set i (some v)) (vL.set i (some w)) := by
  refine ⟨by rw [List.length_set, List.length_set]; exact q.1, fun j u hu => ?_⟩
  rw [List.getElem?_set] at hu
  split at hu
  · rename_i e
    subst e
    split at hu
    · rename_i hl
      cases hu
      exact ⟨w, by rw [List.getElem?_set_self (by rw [← q.1]; exact hl)], hv⟩
    · cases hu
  · rename_i e
    rw [List.getElem?_set_ne e]
    exact q.2 j u hu
theorem bKil_ok {ι : List Value} {h : sHp} {L : bLo} {vL : sLo} {i : Nat} {f : bLo → Bool} (g : bKil L i f = true) (q : bmL ι h L vL) : ∃ L1, f L1 = true ∧ bmL ι h L1 (sKill vL i) := by
  unfold bKil at g
  unfold sKill
  cases i with
  | zero => exact ⟨L, g, q⟩
  | succ j =>
    dsimp only at g ⊢
    rw [bSet_eq, aNth_eq] at g
    cases hb : bIsL L[j]? with
    | true =>
      rw [hb] at g
      refine ⟨_, g, ?_⟩
      split
      · exact bmL_none q j none
      · exact bmL_none' q j
    | false =>
      rw [hb] at g
      refine ⟨L, g, ?_⟩
      split
      · rename_i hs
        refine ⟨by rw [List.length_set]; exact q.1, fun k v hv => ?_⟩
        by_cases e : j = k
        · subst e
          exfalso
          obtain ⟨w, h1, h2⟩ := q.2 j v hv
          rw [h1] at hs
          rw [hv] at hb
          have h3 := bmV_cat h2
          have h4 : bJk v = false := hb
          rw [h4] at h3
          cases w <;> first | (cases hs; done) | (cases h3)
        · rw [List.getElem?_set_ne e]
          exact q.2 k v hv
      · exact q
theorem bPut_ok {ι : List Value} {h : sHp} {L : bLo} {vL : sLo} {i : Nat} {v : bV} {w : Value} {f : bLo → Bool} (g : bPut L i v f = true) (q : bmL ι h L vL) (hv : bmV ι h v w) : ∃ L1, f L1 = true ∧ bmL ι h L1 (sPut vL i w) := by
  unfold bPut at g
  obtain ⟨L1, g1, q1⟩ := bKil_ok g q
  rw [bSet_eq] at g1
  exact ⟨_, g1, bmL_some q1 i hv⟩
theorem bPutL_ok {ι : List Value} {h : sHp} {L : bLo} {vL : sLo} {i : Nat} {v : bV} {w : Value} {f : bLo → Bool} (g : bPutL L i v f = true) (q : bmL ι h L vL) (hv : bmV ι h v w) : ∃ L1, f L1 = true ∧ bmL ι h L1 (sPutL vL i w) := by
  unfold bPutL at g
  obtain ⟨L1, g1, q1⟩ := bPut_ok g q hv
  rw [bSet_eq] at g1
  exact ⟨_, g1, bmL_none q1 (i + 1) none⟩
def bLdK (k : Nat) (v : bV) : Bool := match v with
  | .inl _ => Nat.beq k 0
  | .inr (t, _) => (match t with
    | 0 => Nat.beq k 1
    | _ + 1 => Nat.beq k 2)
def bLd (k i : Nat) (S : bS) (L : bLo) (st : List bV) (f : bS → bLo → List bV → Bool) : Bool := match aNth L i with
  | some (some v) => bif bLdK k v then f S L (v :: st) else false
  | _ => false
def bSt1 (k i : Nat) (S : bS) (L : bLo) (st : List bV) (f : bS → bLo → List bV → Bool) : Bool := match st with
  | v :: r => bif bLdK k v && Nat.blt i L.length then bPut L i v (fun L1 => f S L1 r) else false
  | _ => false
def bStL (i : Nat) (S : bS) (L : bLo) (st : List bV) (f : bS → bLo → List bV → Bool) : Bool := match st with
  | v :: r => bif bLdK 1 v && Nat.blt (i + 1) L.length then bPutL L i v (fun L1 => f S L1 r) else false
  | _ => false
def bLoc (ins : Instr) (S : bS) (L : bLo) (st : List bV) (f : bS → bLo → List bV → Bool) : Bool := match ins with
  | .iload i => bLd 0 i S L st f
  | .iload_n i => bLd 0 i S L st f
  | .lload i => bLd 1 i S L st f
  | .lload_n i => bLd 1 i S L st f
  | .aload i => bLd 2 i S L st f
  | .aload_n i => bLd 2 i S L st f
  | .istore i => bSt1 0 i S L st f
  | .istore_n i => bSt1 0 i S L st f
  | .lstore i => bStL i S L st f
  | .lstore_n i => bStL i S L st f
  | .astore i => bSt1 2 i S L st f
  | .astore_n i => bSt1 2 i S L st f
  | .iinc i n => (match aNth L i with
    | some (some (.inl a)) => bif decide (-2147483648 ≤ n) && decide (n ≤ 2147483647) then bAdd S a n (fun S1 b => bPut L i (.inl b) (fun L1 => f S1 L1 st)) else false
    | _ => false)
  | _ => false
def bLr (ι : List Value) (h : sHp) (S : bS) (f : bS → bLo → List bV → Bool) (o : Option (sLo × List Value)) : Prop := ∃ ι' S' L' st' vL' ws', o = some (vL', ws') ∧ f S' L' st' = true ∧ bLe ι ι' ∧ bmS ι' h S' ∧ bmL ι' h L' vL' ∧ bmT1 ι' h st' ws' ∧ S'.2.1 = S.2.1
theorem bLdK_ok {ι : List Value} {h : sHp} {k : Nat} {v : bV} {w : Value} (g : bLdK k v = true) (q : bmV ι h v w) : (k = 0 ∧ ∃ x, w = .int x) ∨ (k = 1 ∧ ∃ x, w = .long x) ∨ (k = 2 ∧ (w = .null ∨ ∃ p, w = .ref p)) := by
  rcases v with a | ⟨t, K⟩
  · obtain ⟨x, e, -⟩ := q
    exact Or.inl ⟨aBt g, x, e⟩
  · match t, g, q with
    | 0, g, q => exact Or.inr (Or.inl ⟨aBt g, q⟩)
    | 1, g, q => exact Or.inr (Or.inr ⟨aBt g, Or.inl q⟩)
    | 2, g, q =>
      obtain ⟨p, e, -⟩ := q
      exact Or.inr (Or.inr ⟨aBt g, Or.inr ⟨p, e⟩⟩)
    | k + 3, g, q => exact Or.inr (Or.inr ⟨aBt g, q.2.imp id (fun ⟨p, e, _⟩ => ⟨p, e⟩)⟩)
section LOC
variable {ι : List Value} {h : sHp} {S : bS} {L : bLo} {st : List bV} {f : bS → bLo → List bV → Bool} {vL : sLo} {ws : List Value} {i : Nat}
theorem bLd_ok {k : Nat} {o : Option (sLo × List Value)} (g : bLd k i S L st f = true) (q : bmS ι h S) (hL : bmL ι h L vL) (hs : bmT1 ι h st ws) (ho : ∀ w, vL[i]? = some (some w) → ((k = 0 ∧ ∃ x, w = .int x) ∨ (k = 1 ∧ ∃ x, w = .long x) ∨ (k = 2 ∧ (w = .null ∨ ∃ p, w = .ref p))) → o = some (vL, w :: ws)) : bLr ι h S f o := by
  unfold bLd at g
  rw [aNth_eq] at g
  split at g
  · rename_i v hv
    obtain ⟨g1, g⟩ := b_bif g
    obtain ⟨w, h1, h2⟩ := hL.2 i v hv
    exact ⟨ι, S, L, _, vL, _, ho w h1 (bLdK_ok g1 h2), g, bLe_refl ι, q, hL, ⟨h2, hs⟩, rfl⟩
  · cases g
theorem bSt1_ok {k : Nat} {o : Option (sLo × List Value)} (g : bSt1 k i S L st f = true) (q : bmS ι h S) (hL : bmL ι h L vL) (hs : bmT1 ι h st ws) (ho : ∀ w s, ws = w :: s → i < vL.length → ((k = 0 ∧ ∃ x, w = .int x) ∨ (k = 1 ∧ ∃ x, w = .long x) ∨ (k = 2 ∧ (w = .null ∨ ∃ p, w = .ref p))) → o = some (sPut vL i w, s)) : bLr ι h S f o := by
  unfold bSt1 at g
  split at g
  · rename_i v r
    obtain ⟨g1, g⟩ := b_bif g
    obtain ⟨g1, g2⟩ := aBa g1
    replace hs := bmT1_cons hs
    obtain ⟨w, s, rfl, hv, hs⟩ := hs
    obtain ⟨L1, g3, q3⟩ := bPut_ok g hL hv
    exact ⟨ι, S, L1, r, _, s, ho w s rfl (by rw [← hL.1]; exact aBl g2) (bLdK_ok g1 hv), g3, bLe_refl ι, q, q3, hs, rfl⟩
  · cases g
theorem bStL_ok {o : Option (sLo × List Value)} (g : bStL i S L st f = true) (q : bmS ι h S) (hL : bmL ι h L vL) (hs : bmT1 ι h st ws) (ho : ∀ x s, ws = .long x :: s → i + 1 < vL.length → o = some (sPutL vL i (.long x), s)) : bLr ι h S f o := by
  unfold bStL at g
  split at g
  · rename_i v r
    obtain ⟨g1, g⟩ := b_bif g
    obtain ⟨g1, g2⟩ := aBa g1
    replace hs := bmT1_cons hs
    obtain ⟨w, s, rfl, hv, hs⟩ := hs
    obtain ⟨L1, g3, q3⟩ := bPutL_ok g hL hv
    rcases bLdK_ok g1 hv with ⟨e, -⟩ | ⟨-, x, rfl⟩ | ⟨e, -⟩
    · cases e
    · exact ⟨ι, S, L1, r, _, s, ho x s rfl (by rw [← hL.1]; exact aBl g2), g3, bLe_refl ι, q, q3, hs, rfl⟩
    · cases e
  · cases g
theorem b_ldI {w : Value} (hw : vL[i]? = some (some w)) (hk : ((0 : Nat) = 0 ∧ ∃ x, w = .int x) ∨ ((0 : Nat) = 1 ∧ ∃ x, w = .long x) ∨ ((0 : Nat) = 2 ∧ (w = .null ∨ ∃ p, w = .ref p))) : sLdI vL i ws = some (vL, w :: ws) := by
  rcases hk with ⟨-, x, rfl⟩ | ⟨e, -⟩ | ⟨e, -⟩
  · unfold sLdI; rw [hw]
  · cases e
  · cases e
theorem b_ldL {w : Value} (hw : vL[i]? = some (some w)) (hk : ((1 : Nat) = 0 ∧ ∃ x, w = .int x) ∨ ((1 : Nat) = 1 ∧ ∃ x, w = .long x) ∨ ((1 : Nat) = 2 ∧ (w = .null ∨ ∃ p, w = .ref p))) : sLdL vL i ws = some (vL, w :: ws) := by
  rcases hk with ⟨e, -⟩ | ⟨-, x, rfl⟩ | ⟨e, -⟩
  · cases e
  · unfold sLdL; rw [hw]
  · cases e
theorem b_ldA {w : Value} (hw : vL[i]? = some (some w)) (hk : ((2 : Nat) = 0 ∧ ∃ x, w = .int x) ∨ ((2 : Nat) = 1 ∧ ∃ x, w = .long x) ∨ ((2 : Nat) = 2 ∧ (w = .null ∨ ∃ p, w = .ref p))) : sLdA vL i ws = some (vL, w :: ws) := by
  rcases hk with ⟨e, -⟩ | ⟨e, -⟩ | ⟨-, rfl | ⟨x, rfl⟩⟩
  · cases e
  · cases e
  · unfold sLdA; rw [hw]
  · unfold sLdA; rw [hw]
theorem b_stI {w : Value} {s : List Value} (hl : i < vL.length) (hk : ((0 : Nat) = 0 ∧ ∃ x, w = .int x) ∨ ((0 : Nat) = 1 ∧ ∃ x, w = .long x) ∨ ((0 : Nat) = 2 ∧ (w = .null ∨ ∃ p, w = .ref p))) : sStI vL i (w :: s) = some (sPut vL i w, s) := by
  rcases hk with ⟨-, x, rfl⟩ | ⟨e, -⟩ | ⟨e, -⟩
  · unfold sStI; dsimp only; rw [if_pos hl]
  · cases e
  · cases e
theorem b_stA {w : Value} {s : List Value} (hl : i < vL.length) (hk : ((2 : Nat) = 0 ∧ ∃ x, w = .int x) ∨ ((2 : Nat) = 1 ∧ ∃ x, w = .long x) ∨ ((2 : Nat) = 2 ∧ (w = .null ∨ ∃ p, w = .ref p))) : sStA vL i (w :: s) = some (sPut vL i w, s) := by
  rcases hk with ⟨e, -⟩ | ⟨e, -⟩ | ⟨-, rfl | ⟨x, rfl⟩⟩
  · cases e
  · cases e
  · unfold sStA; dsimp only; rw [if_pos hl]
  · unfold sStA; dsimp only; rw [if_pos hl]
theorem b_stL {x : Int64} {s : List Value} (hl : i + 1 < vL.length) : sStL vL i (.long x :: s) = some (sPutL vL i (.long x), s) := by
  unfold sStL; dsimp only; rw [if_pos hl]
theorem bLoc_ok {ins : Instr} (g : bLoc ins S L st f = true) (q : bmS ι h S) (hL : bmL ι h L vL) (hs : bmT1 ι h st ws) : bLr ι h S f (sLoc ins vL ws) := by
  unfold bLoc at g
  split at g
  · exact bLd_ok g q hL hs (fun w => b_ldI)
  · exact bLd_ok g q hL hs (fun w => b_ldI)
  · exact bLd_ok g q hL hs (fun w => b_ldL)
  · exact bLd_ok g q hL hs (fun w => b_ldL)
  · exact bLd_ok g q hL hs (fun w => b_ldA)
  · exact bLd_ok g q hL hs (fun w => b_ldA)
  · exact bSt1_ok g q hL hs (fun w s e hl hk => by subst e; exact b_stI hl hk)
  · exact bSt1_ok g q hL hs (fun w s e hl hk => by subst e; exact b_stI hl hk)
  · exact bStL_ok g q hL hs (fun x s e hl => by subst e; exact b_stL hl)
  · exact bStL_ok g q hL hs (fun x s e hl => by subst e; exact b_stL hl)
  · exact bSt1_ok g q hL hs (fun w s e hl hk => by subst e; exact b_stA hl hk)
  · exact bSt1_ok g q hL hs (fun w s e hl hk => by subst e; exact b_stA hl hk)
  · rename_i i n
    rw [aNth_eq] at g
    split at g
    · rename_i a hv
      obtain ⟨g1, g⟩ := b_bif g
      obtain ⟨g1, g2⟩ := aBa g1
      have g1 := of_decide_eq_true g1
      have g2 := of_decide_eq_true g2
      obtain ⟨w, h1, x, rfl, hx⟩ := hL.2 i _ hv
      obtain ⟨ι', S', b, k1, k2, k3, k4, k5⟩ := bAdd_ok (z := x + Int32.ofInt n) g q hx (by rw [Int32.toInt_add, Int32.toInt_ofInt_of_le (by omega) (by omega)])
      obtain ⟨L1, g3, q3⟩ := bPut_ok (w := .int (x + Int32.ofInt n)) k1 (bmL_mono k2 (bEx_refl h) hL) ⟨_, rfl, k4⟩
      refine ⟨ι', S', L1, st, _, ws, ?_, g3, k2, k3, q3, bmT1_mono k2 (bEx_refl h) hs, k5⟩
      show sInc vL i n ws = _
      unfold sInc
      rw [h1]
    · cases g
  · cases g
end LOC
end
section
/-! ===== the second executor: cells ===== -/
def bOf (k : Nat) : List (Nat × bV) → Option bV
  | [] => none
  | e :: r => bif Nat.beq e.1 k then some e.2 else bOf k r
theorem bOf_mem {k : Nat} {v : bV} : ∀ {O : List (Nat × bV)}, bOf k O = some v → (k, v) ∈ O := by
  intro O
  induction O with
  | nil => intro h; cases h
  | cons e r ih =>
    intro h
    unfold bOf at h
    rw [aBq] at h
    by_cases he : e.1 = k
    · rw [decide_eq_true he] at h
      cases h
      rw [← he]
      exact List.mem_cons_self
    · rw [decide_eq_false he] at h
      exact List.mem_cons_of_mem _ (ih h)
/-- a list without some of its members, laid out anew -/
def bFil {α : Type} (p : α → Bool) : List α → (List α → Bool) → Bool
  | [], f => f []
  | a :: r, f => bif p a then bFil p r (fun l => f (a :: l)) else bFil p r f
theorem bFil_eq {α : Type} (p : α → Bool) : ∀ (l : List α) (f : List α → Bool), bFil p l f = f (l.filter p) := by
  intro l
  induction l with
  | nil => intro f; rfl
  | cons a r ih =>
    intro f
    unfold bFil
    rw [List.filter_cons, ih, ih]
    cases p a <;> rfl
def bSmN (a b : bN) : Bool := match a with
  | .inl i => (match b with
    | .inl j => Nat.beq i j
    | _ => false)
  | .inr c => (match b with
    | .inr d => decide (c = d)
    | _ => false)
theorem bSmN_ok {a b : bN} (h : bSmN a b = true) : a = b := by
  unfold bSmN at h
  split at h
  · split at h
    · rw [aBt h]
    · cases h
  · split at h
    · rw [of_decide_eq_true h]
    · cases h
def bAf (K : Nat) (a : bN) : List (Nat × bN × bV) → Option bV
  | [] => none
  | e :: r => bif Nat.beq e.1 K && bSmN e.2.1 a then some e.2.2 else bAf K a r
theorem bAf_mem {K : Nat} {a : bN} {v : bV} : ∀ {A : List (Nat × bN × bV)}, bAf K a A = some v → (K, a, v) ∈ A := by
  intro A
  induction A with
  | nil => intro h; cases h
  | cons e r ih =>
    intro h
    unfold bAf at h
    cases hb : (Nat.beq e.1 K && bSmN e.2.1 a) with
    | true =>
      rw [hb] at h
      cases h
      replace hb := aBa hb
      obtain ⟨h1, h2⟩ := hb
      obtain ⟨p, b, v⟩ := e
      have e1 := aBt h1
      have e2 := bSmN_ok h2
      dsimp only at e1 e2
      subst e1 e2
      exact List.mem_cons_self
    | false =>
      rw [hb] at h
      exact List.mem_cons_of_mem _ (ih h)
/-- the field's own type takes values of the type -/
def bFty (s : FieldType) (t : bTy) : Bool := match s with
  | .int => (match t with
    | .inl _ => true
    | _ => false)
  | .boolean => (match t with
    | .inl (lo, hi) => decide (0 ≤ lo) && decide (hi ≤ 1)
    | _ => false)
  | .long => (match t with
    | .inr (k, _) => Nat.beq k 0
    | _ => false)
  | .object _ => (match t with
    | .inr (k, _) => Nat.blt 0 k
    | _ => false)
  | .array _ => (match t with
    | .inr (k, _) => Nat.blt 0 k
    | _ => false)
  | _ => false
theorem b_bit {x : Int32} {lo hi : Int} (h1 : 0 ≤ lo) (h2 : hi ≤ 1) (h3 : lo ≤ x.toInt) (h4 : x.toInt ≤ hi) : x = 0 ∨ x = 1 := by
  have e0 : (0 : Int32).toInt = 0 := rfl
  have e1 : (1 : Int32).toInt = 1 := rfl
  by_cases h : x.toInt = 0
  · exact Or.inl (Int32.toInt_inj.mp (by rw [h, e0]))
  · exact Or.inr (Int32.toInt_inj.mp (by rw [e1]; omega))
theorem bT_ref {h : sHp} {k K : Nat} {w : Value} (q : bT h (.inr (k, K)) w) (hk : 0 < k) : w = .null ∨ ∃ p, w = .ref p := by
  match k, hk, q with
  | 1, _, q => exact Or.inl q
  | 2, _, q =>
    obtain ⟨p, e, -⟩ := q
    exact Or.inr ⟨p, e⟩
  | k + 3, _, q => exact q.imp id (fun ⟨p, e, _⟩ => ⟨p, e⟩)
theorem bFty_ok {h : sHp} {s : FieldType} {t : bTy} {w : Value} (g : bFty s t = true) (q : bT h t w) : sFit s w = true := by
  unfold bFty at g
  split at g
  · rcases t with ⟨lo, hi⟩ | ⟨k, K⟩
    · obtain ⟨x, rfl, -⟩ := q
      rfl
    · cases g
  · rcases t with ⟨lo, hi⟩ | ⟨k, K⟩
    · obtain ⟨x, rfl, h3, h4⟩ := q
      replace g := aBa g
      obtain ⟨h1, h2⟩ := g
      exact decide_eq_true (b_bit (of_decide_eq_true h1) (of_decide_eq_true h2) h3 h4)
    · cases g
  · rcases t with ⟨lo, hi⟩ | ⟨k, K⟩
    · cases g
    · have e : k = 0 := aBt g
      subst e
      obtain ⟨x, rfl⟩ := q
      rfl
  · rcases t with ⟨lo, hi⟩ | ⟨k, K⟩
    · cases g
    · rcases bT_ref q (aBl g) with rfl | ⟨p, rfl⟩ <;> rfl
  · rcases t with ⟨lo, hi⟩ | ⟨k, K⟩
    · cases g
    · rcases bT_ref q (aBl g) with rfl | ⟨p, rfl⟩ <;> rfl
  · cases g
/-- an object behind a value -/
def bObj (S : bS) (v : bV) : Option (Nat × Nat × List bTy) := match bRef S v with
  | some K => (match bGam (bKd K) with
    | some (.inr (ci, tys)) => some (K, ci, tys)
    | _ => none)
  | none => none
def bArr (S : bS) (v : bV) : Option (Nat × Nat × Nat × bTy × List Int) := match bRef S v with
  | some K => (match bGam (bKd K) with
    | some (.inl z) => some (K, z)
    | _ => none)
  | none => none
def bGet (k : Nat) (S : bS) (st : List bV) (f : bS → List bV → Bool) : Bool := match st with
  | v :: r => (match bObj S v with
    | some (K, ci, tys) => (match aNth tys (k % 64) with
      | some ty => bif Nat.beq (sGrp ci) (k / 64) then (match ty with
        | .inl (lo, hi) => bif bOne K then (aF (K * 64 + k % 64) fun key => (match bOf key S.2.2.2.2.2.1 with
          | some x => f S (x :: r)
          | none => bNew lo hi S (fun S1 x => (match S1 with
            | (n, g, G, D, N, O, A) => f (n, g, G, D, N, (key, .inl x) :: O, A) (.inl x :: r))))) else bNew lo hi S (fun S1 x => f S1 (.inl x :: r))
        | ty => bMk ty S (fun S1 x => f S1 (x :: r))) else false
      | none => false)
    | none => false)
  | _ => false
def bDf (D : List (Nat × Nat × Int)) (i : Nat) : Nat × Int := match D with
  | [] => (i, 0)
  | e :: r => bif Nat.beq e.1 i then e.2 else bDf r i
/-- surely no smaller than what was there -/
def bGe : Nat → bS → bN → bN → Int → Bool
  | 0, _, _, _, _ => false
  | n + 1, S, a, b, c => bSmN a b && decide (0 ≤ c) || (match a with
    | .inr _ => false
    | .inl i => (match bDf S.2.2.2.1 i with
      | (j, e) => bif Nat.beq i j then false else bGe n S (.inl j) b (c + e)))
def bUp (S : bS) (key : Nat) (v : bV) : Bool := match v with
  | .inl a => (match bOf key S.2.2.2.2.2.1 with
    | some (.inl b) => bGe 9 S a b 0
    | _ => false)
  | _ => false
def bPtf (W k : Nat) (S : bS) (st : List bV) (f : bS → List bV → Bool) : Bool := match st with
  | v :: u :: r => (match bObj S u with
    | some (K, ci, tys) => (match aNth tys (k % 64) with
      | some ty => bif Nat.beq (sGrp ci) (k / 64) && (bFit S v ty && (bFty (sTy ci (k % 64)) ty && (Nat.blt K 113 && ((W.testBit (K * 64 + k % 64) && !(bPk (K * 64 + k % 64))) && (W.testBit (K * 64 + k % 64 + 8192) || (bOne K && bUp S (K * 64 + k % 64) v)))))) then (aF (K * 64 + k % 64) fun key => (match S with
        | (n, g, G, D, N, O, A) => bFil (fun e => !(Nat.beq e.1 key)) O fun O1 => bif bOne K then f (n, g, G, D, N, (key, v) :: O1, A) r else f (n, g, G, D, N, O1, A) r)) else false
      | none => false)
    | none => false)
  | _ => false
def bIx (S : bS) (a : bN) (n : Nat) : Bool := match bI S a with
  | (x, y) => decide (0 ≤ x) && decide (y < (n : Int))
def bLdv (t : Nat) (S : bS) (st : List bV) (f : bS → List bV → Bool) : Bool := match st with
  | .inl a :: v :: r => (match bArr S v with
    | some (_, t', n, ty, cs) => bif Nat.beq t' t && bIx S a n then (match ty with
      | .inl (lo, hi) => (match bI S a with
        | (x, y) => bif decide (x = y) then (match aNth cs x.toNat with
          | some z => f S (.inl (.inr z) :: r)
          | none => bNew lo hi S (fun S1 x => f S1 (.inl x :: r))) else bNew lo hi S (fun S1 x => f S1 (.inl x :: r)))
      | .inr (k, _) => bif Nat.beq k 0 then f S (.inr (0, 0) :: r) else false) else false
    | none => false)
  | _ => false
def bLda (S : bS) (st : List bV) (f : bS → List bV → Bool) : Bool := match st with
  | .inl a :: v :: r => (match bArr S v with
    | some (K, t, n, ty, _) => bif (Nat.blt 2 t && Nat.blt t 6) && bIx S a n then (bif bOne K then (match bAf K a S.2.2.2.2.2.2 with
        | some x => f S (x :: r)
        | none => bMk ty S (fun S1 x => (match S1 with
          | (n, g, G, D, N, O, A) => f (n, g, G, D, N, O, (K, a, x) :: A) (x :: r)))) else bMk ty S (fun S1 x => f S1 (x :: r))) else false
    | none => false)
  | _ => false
def bStv (t W : Nat) (S : bS) (st : List bV) (f : bS → List bV → Bool) : Bool := match st with
  | v :: .inl a :: u :: r => (match bArr S u with
    | some (K, t', n, ty, cs) => bif Nat.beq t' t && (bIx S a n && (bFit S v ty && (cs.isEmpty && (W.testBit (K * 64) && !(bPk (K * 64)))))) then f S r else false
    | none => false)
  | _ => false
def bSta (W : Nat) (S : bS) (st : List bV) (f : bS → List bV → Bool) : Bool := match st with
  | v :: .inl a :: u :: r => (match bArr S u with
    | some (K, t, n, ty, _) => bif Nat.beq t 4 && (bIx S a n && (bFit S v ty && (W.testBit (K * 64) && (match ty with
      | .inr (k, K') => Nat.beq k 3 && Nat.beq K' 113
      | _ => false)))) then (match S with
        | (n, g, G, D, N, O, A) => bFil (fun e => !(Nat.beq e.1 K)) A fun A1 => f (n, g, G, D, N, O, A1) r) else false
    | none => false)
  | _ => false
def bHeap (W : Nat) (ins : Instr) (S : bS) (st : List bV) (f : bS → List bV → Bool) : Bool := match ins with
  | .getfield k => bGet k S st f
  | .putfield k => bPtf W k S st f
  | .iaload => bLdv 0 S st f
  | .baload => bLdv 2 S st f
  | .laload => bLdv 1 S st f
  | .aaload => bLda S st f
  | .iastore => bStv 0 W S st f
  | .bastore => bStv 2 W S st f
  | .lastore => bStv 1 W S st f
  | .aastore => bSta W S st f
  | .arraylength => (match st with
    | v :: r => (match bArr S v with
      | some (_, t, n, _, _) => bif Nat.blt t 6 && Nat.blt n 100000 then aF n fun n => f S (.inl (.inr (Int.ofNat n)) :: r) else false
      | none => false)
    | _ => false)
  | .ldc2_w _ => f S (.inr (0, 0) :: st)
  | .ldc k => bif Nat.blt k 2147483648 then f S (.inl (.inr (Int.ofNat k)) :: st) else (bif Nat.blt k 4294967296 then aF (4294967295 - k) (fun j => f S (.inl (.inr (Int.negSucc j)) :: st)) else (bif Nat.blt k 4294967303 then aF (400 + (k - 4294967296)) (fun K => f S (.inr (2, K) :: st)) else false))
  | .ldc_w k => bif Nat.blt k 2147483648 then f S (.inl (.inr (Int.ofNat k)) :: st) else (bif Nat.blt k 4294967296 then aF (4294967295 - k) (fun j => f S (.inl (.inr (Int.negSucc j)) :: st)) else false)
  | _ => false
/-- what a step over the cells gives -/
def bHo (ι : List Value) (h : sHp) (W : Nat) (S : bS) (f : bS → List bV → Bool) (o : Option (List Value × sHp)) : Prop := ∃ ι' S' st' ws' h', o = some (ws', h') ∧ f S' st' = true ∧ bLe ι ι' ∧ bmS ι' h' S' ∧ bmT1 ι' h' st' ws' ∧ S'.2.1 = S.2.1 ∧ bH h' ∧ bFr W 0 h h'
section HEAP
variable {ι : List Value} {h : sHp} {S : bS} {st : List bV} {f : bS → List bV → Bool} {ws : List Value} {W : Nat}
theorem bObj_ok {v : bV} {w : Value} {K ci0 : Nat} {tys : List bTy} (g : bObj S v = some (K, ci0, tys)) (hH : bH h) (q : bmS ι h S) (hv : bmV ι h v w) : ∃ (p ci : Nat) (fs : List Value), w = .ref p ∧ h[p]? = some (.inr (ci, fs)) ∧ sGrp ci = sGrp ci0 ∧ (K ≠ 113 → ci = ci0) ∧ fs.length = tys.length ∧ (∀ (j : Nat) (ty : bTy), tys[j]? = some ty → ∃ v : Value, fs[j]? = some v ∧ bT h ty v) ∧ bGam (bKp p (.inr (ci, fs))) = some (.inr (ci, tys)) ∧ bKK (bKp p (.inr (ci, fs))) K = true := by
  unfold bObj at g
  split at g
  · rename_i K' hr
    obtain ⟨p, rfl, hp⟩ := bRef_ok hr q hv
    split at g
    · rename_i ci1 tys1 hg
      cases g
      obtain ⟨ci, fs, h1, h2⟩ := bIn_obj hH hp hg
      exact ⟨p, ci, fs, rfl, h1, h2⟩
    · cases g
  · cases g
theorem bArr_ok {v : bV} {w : Value} {K t n : Nat} {ty : bTy} {cs : List Int} (g : bArr S v = some (K, t, n, ty, cs)) (hH : bH h) (q : bmS ι h S) (hv : bmV ι h v w) : ∃ p c, w = .ref p ∧ h[p]? = some c ∧ bCm h (.inl (t, n, ty, cs)) c ∧ bKp p c = K ∧ bGam K = some (.inl (t, n, ty, cs)) := by
  unfold bArr at g
  split at g
  · rename_i K' hr
    obtain ⟨p, rfl, hp⟩ := bRef_ok hr q hv
    split at g
    · rename_i z hg
      cases g
      obtain ⟨c, h1, h2⟩ := bIn_arr hH hp hg
      exact ⟨p, c, rfl, h1, h2⟩
    · cases g
  · cases g
theorem bIx_ok {a : bN} {x : Int32} {n : Nat} (g : bIx S a n = true) (q : bmS ι h S) (hx : bmI ι a x) : ¬ (x < 0 ∨ n ≤ x.toNatClampNeg) ∧ x.toNatClampNeg < n ∧ (x.toNatClampNeg : Int) = x.toInt := by
  have h0 := bI_ok q hx
  unfold bIx at g
  generalize bI S a = p at g h0
  obtain ⟨lo, hi⟩ := p
  unfold aW at h0
  dsimp only at g h0
  replace g := aBa g
  obtain ⟨g1, g2⟩ := g
  replace g1 := of_decide_eq_true g1
  replace g2 := of_decide_eq_true g2
  have e : (x.toNatClampNeg : Int) = x.toInt := by
    show ((x.toInt.toNat : Nat) : Int) = x.toInt
    omega
  refine ⟨fun z => ?_, by omega, e⟩
  rcases z with z | z
  · have := Int32.lt_iff_toInt_lt.mp z
    have e0 : (0 : Int32).toInt = 0 := rfl
    omega
  · omega
theorem bHo_read {w : Value} {r : List bV} {rs : List Value} {ty : bTy} {o : Option (List Value × sHp)} (g : bMk ty S (fun S1 x => f S1 (x :: r)) = true) (hH : bH h) (q : bmS ι h S) (hr : bmT1 ι h r rs) (hw : bT h ty w) (ho : o = some (w :: rs, h)) : bHo ι h W S f o := by
  obtain ⟨ι', S', v, g1, g2, g3, g4, g5⟩ := bMk_ok g q hw
  exact ⟨ι', S', _, _, h, ho, g1, g2, g3, ⟨g4, bmT1_mono g2 (bEx_refl h) hr⟩, g5, hH, bFr_refl W h⟩
theorem bHo_same {st' : List bV} {ws' : List Value} {o : Option (List Value × sHp)} (g : f S st' = true) (hH : bH h) (q : bmS ι h S) (ho : o = some (ws', h)) (hr : bmT1 ι h st' ws') : bHo ι h W S f o := ⟨ι, S, _, _, h, ho, g, bLe_refl ι, q, hr, rfl, hH, bFr_refl W h⟩
theorem bGet_ok {k : Nat} (g : bGet k S st f = true) (hH : bH h) (q : bmS ι h S) (hs : bmT1 ι h st ws) : bHo ι h W S f (sGetF k ws h) := by
  unfold bGet at g
  split at g
  · rename_i v r
    replace hs := bmT1_cons hs
    obtain ⟨w, s, rfl, hv, hs⟩ := hs
    split at g
    · rename_i K ci0 tys ho
      obtain ⟨p, ci, fs, rfl, h1, h2, -, h4, h5, -, h6⟩ := bObj_ok ho hH q hv
      split at g
      · rename_i ty hty
        rw [aNth_eq] at hty
        obtain ⟨x, hx, hT⟩ := h5 _ _ hty
        replace g := b_bif g
        obtain ⟨b1, g⟩ := g
        have e : sGetF k (.ref p :: s) h = some (x :: s, h) := by
          unfold sGetF
          dsimp only
          rw [h1]
          dsimp only
          rw [if_pos (h2.trans (aBt b1)), hx]
        split at g
        · rename_i lo hi
          cases hb : bOne K with
          | false =>
            rw [hb] at g
            exact bHo_read (ty := .inl (lo, hi)) g hH q hs hT e
          | true =>
            rw [hb] at g
            dsimp only [cond] at g
            rw [aF_eq] at g
            have hk : bKp p (.inr (ci, fs)) = K := by
              rcases bKK_cases h6 with e1 | ⟨e1, -⟩
              · exact e1
              · exact absurd (bOne_k hb (.inr (0, []))).1 (by omega)
            have hp := bOne_p hb hk
            subst hp
            have hdiv : (p * 64 + k % 64) / 64 = p := by omega
            have hmod : (p * 64 + k % 64) % 64 = k % 64 := by omega
            split at g
            · rename_i y hy
              obtain ⟨-, ci', fs', w', k1, k2, k3⟩ := q.2.2.2.2.1 _ (bOf_mem hy)
              dsimp only at k1 k2 k3
              rw [hdiv, h1] at k1
              cases k1
              rw [hmod, hx] at k2
              cases k2
              exact bHo_same g hH q e ⟨k3, hs⟩
            · obtain ⟨z, rfl, hz⟩ := hT
              obtain ⟨ι', S', a, g1, g2, g3, g4, g5⟩ := bNew_ok g q (x := z) hz
              obtain ⟨n0, g0, G, D, N, O, A⟩ := S'
              refine ⟨ι', _, _, _, h, e, g1, g2, ⟨g3.1, g3.2.1, g3.2.2.1, g3.2.2.2.1, ?_, g3.2.2.2.2.2⟩, ⟨⟨z, rfl, g4⟩, bmT1_mono g2 (bEx_refl h) hs⟩, g5, hH, bFr_refl W h⟩
              intro e' he
              rcases List.mem_cons.mp he with rfl | he
              · refine ⟨by dsimp only; rw [hdiv]; exact hb, ci, fs, .int z, by dsimp only; rw [hdiv]; exact h1, by dsimp only; rw [hmod]; exact hx, z, rfl, g4⟩
              · exact g3.2.2.2.2.1 e' he
        · exact bHo_read g hH q hs hT e
      · cases g
    · cases g
  · cases g
/-- the state after a write that leaves what it knows -/
theorem bmS_heap {h' : sHp} {n g : Nat} {G : List (Nat × Int × Int)} {D : List (Nat × Nat × Int)} {N : List (Nat × Bool)} {O O' : List (Nat × bV)} {A A' : List (Nat × bN × bV)} (q : bmS ι h (n, g, G, D, N, O, A)) (hO : bmO ι h' O') (hA : bmA ι h' A') : bmS ι h' (n, g, G, D, N, O', A') := ⟨q.1, q.2.1, q.2.2.1, q.2.2.2.1, hO, hA⟩
theorem bmA_obj {p ci ci' : Nat} {fs fs' : List Value} {A : List (Nat × bN × bV)} (q : bmA ι h A) (hc : h[p]? = some (.inr (ci, fs))) (hx : bEx h (h.set p (.inr (ci', fs')))) : bmA ι (h.set p (.inr (ci', fs'))) A := fun e he => by
  obtain ⟨h0, t, n, f, j, h1, h2, h3⟩ := q e he
  refine ⟨h0, t, n, f, j, ?_, h2, bmV_mono (bLe_refl ι) hx h3⟩
  by_cases e1 : p = e.1
  · subst e1
    rw [hc] at h1
    cases h1
  · rw [s_set_ne e1]
    exact h1
theorem bmO_arr {p t n : Nat} {d : (Nat → Int32) ⊕ (Nat → Int64) ⊕ (Nat → UInt32) ⊕ (Nat → UInt64) ⊕ (Nat → Option Nat)} {c' : va_E} {O : List (Nat × bV)} (q : bmO ι h O) (hc : h[p]? = some (.inl (t, n, d))) (hx : bEx h (h.set p c')) : bmO ι (h.set p c') O := fun e he => by
  obtain ⟨h0, ci, fs, w, h1, h2, h3⟩ := q e he
  refine ⟨h0, ci, fs, w, ?_, h2, bmV_mono (bLe_refl ι) hx h3⟩
  by_cases e1 : p = e.1 / 64
  · subst e1
    rw [hc] at h1
    cases h1
  · rw [s_set_ne e1]
    exact h1
theorem bDf_sp {i : Nat} : ∀ {D : List (Nat × Nat × Int)}, bmD ι D → ∀ {x : Int32}, ι[i]? = some (.int x) → ∃ y, ι[(bDf D i).1]? = some (.int y) ∧ x.toInt = y.toInt + (bDf D i).2 := by
  intro D
  induction D with
  | nil => intro _ x hx; exact ⟨x, hx, by show x.toInt = x.toInt + 0; omega⟩
  | cons e r ih =>
    intro hD x hx
    unfold bDf
    cases hb : Nat.beq e.1 i with
    | true =>
      obtain ⟨u, y, h1, h2, h3⟩ := hD e List.mem_cons_self
      rw [aBt hb, hx] at h1
      cases h1
      exact ⟨y, h2, h3⟩
    | false => exact ih (fun e he => hD e (List.mem_cons_of_mem _ he)) hx
theorem bGe_ok (q : bmS ι h S) : ∀ (n : Nat) (a b : bN) (c : Int) {x y : Int32}, bGe n S a b c = true → bmI ι a x → bmI ι b y → y.toInt ≤ x.toInt + c := by
  intro n
  induction n with
  | zero => intro a b c x y g; cases g
  | succ n ih =>
    intro a b c x y g ha hb
    unfold bGe at g
    rw [Bool.or_eq_true] at g
    rcases g with g | g
    · obtain ⟨g1, g2⟩ := aBa g
      have g2 := of_decide_eq_true g2
      have e := bSmN_ok g1
      subst e
      have e2 : x = y := by
        cases a with
        | inl i =>
          have h1 : ι[i]? = some (Value.int x) := ha
          have h2 : ι[i]? = some (Value.int y) := hb
          rw [h1] at h2
          cases h2
          rfl
        | inr z =>
          have h1 : x.toInt = z := ha
          have h2 : y.toInt = z := hb
          exact Int32.toInt_inj.mp (h1.trans h2.symm)
      subst e2
      omega
    · cases a with
      | inr z => cases g
      | inl i =>
        dsimp only at g
        have h0 := bDf_sp (i := i) q.2.2.1 ha
        generalize bDf S.2.2.2.1 i = p at g h0
        obtain ⟨j, e⟩ := p
        obtain ⟨w, h1, h2⟩ := h0
        dsimp only at g h1 h2
        cases hij : Nat.beq i j with
        | true => rw [hij] at g; cases g
        | false =>
          rw [hij] at g
          have h3 := ih (.inl j) b (c + e) (x := w) g h1 hb
          omega
theorem bUp_ok {K j p ci : Nat} {fs : List Value} {v : bV} {x : Value} (h1 : bOne K = true) (hk : bKp p (.inr (ci, fs)) = K) (hc : h[p]? = some (.inr (ci, fs))) (g : bUp S (K * 64 + j % 64) v = true) (q : bmS ι h S) (hv : bmV ι h v x) : bVi fs[j % 64]? ≤ bVi (some x) := by
  have hp := bOne_p h1 hk
  subst hp
  unfold bUp at g
  split at g
  · rename_i a
    obtain ⟨z, rfl, hz⟩ := hv
    split at g
    · rename_i b hb
      obtain ⟨-, ci', fs', w', k1, k2, k3⟩ := q.2.2.2.2.1 _ (bOf_mem hb)
      dsimp only at k1 k2 k3
      rw [show (p * 64 + j % 64) / 64 = p by omega, hc] at k1
      cases k1
      rw [show (p * 64 + j % 64) % 64 = j % 64 by omega] at k2
      obtain ⟨y, rfl, hy⟩ := k3
      rw [k2]
      show y.toInt ≤ z.toInt
      have := bGe_ok q 9 a b 0 g hz hy
      omega
    · cases g
  · cases g
theorem bPtf_ok {k : Nat} (g : bPtf W k S st f = true) (hH : bH h) (q : bmS ι h S) (hs : bmT1 ι h st ws) : bHo ι h W S f (sPutF k ws h) := by
  unfold bPtf at g
  split at g
  · rename_i v u r
    replace hs := bmT1_cons hs
    obtain ⟨x, s1, rfl, hv, hs⟩ := hs
    replace hs := bmT1_cons hs
    obtain ⟨w, s, rfl, hu, hs⟩ := hs
    split at g
    · rename_i K ci0 tys ho
      obtain ⟨p, ci, fs, rfl, h1, h2, h3, h4, h5, h7, h6⟩ := bObj_ok ho hH q hu
      split at g
      · rename_i ty hty
        rw [aNth_eq] at hty
        replace g := b_bif g
        obtain ⟨b1, g⟩ := g
        replace b1 := aBa b1
        obtain ⟨b1, b2⟩ := b1
        replace b2 := aBa b2
        obtain ⟨b2, b3⟩ := b2
        replace b3 := aBa b3
        obtain ⟨b3, b4⟩ := b3
        replace b4 := aBa b4
        obtain ⟨b4, b5⟩ := b4
        replace b5 := aBa b5
        obtain ⟨b5, b6⟩ := b5
        obtain ⟨b5, b9⟩ := aBa b5
        rw [Bool.not_eq_true'] at b9
        have hK := aBl b4
        have hci := h3 (by omega)
        subst hci
        have hk : bKp p (.inr (ci, fs)) = K := by
          rcases bKK_cases h6 with e1 | ⟨e1, -⟩
          · exact e1
          · omega
        have hT := bFit_ok b2 q hv
        have hlt : k % 64 < fs.length := by
          rw [h4]
          exact (List.getElem?_eq_some_iff.mp hty).1
        have e : sPutF k (x :: .ref p :: s) h = some (s, h.set p (.inr (ci, fs.set (k % 64) x))) := by
          unfold sPutF
          dsimp only
          rw [h1]
          dsimp only
          rw [if_pos ⟨aBt b1, hlt, bFty_ok b3 hT⟩]
        have hcf : bCf W (bKp p (.inr (ci, fs))) (.inr (ci, fs)) (.inr (ci, fs.set (k % 64) x)) := by
          refine ⟨rfl, by rw [List.length_set], fun j hj => ?_, fun j hj => ?_⟩
          · rw [hk] at hj
            by_cases ej : k % 64 = j
            · subst ej
              rw [b5] at hj
              cases hj
            · rw [List.getElem?_set_ne ej]
          · rw [hk] at hj
            by_cases ej : k % 64 = j
            · subst ej
              rw [hj] at b6
              obtain ⟨b7, b8⟩ := aBa b6
              rw [List.getElem?_set_self hlt]
              exact bUp_ok b7 hk h1 b8 q hv
            · rw [List.getElem?_set_ne ej]
              exact Int.le_refl _
        have hcm : bCm h (.inr (ci, tys)) (.inr (ci, fs.set (k % 64) x)) := by
          refine ⟨_, rfl, by rw [List.length_set]; exact h4, fun j ty' hj => ?_⟩
          by_cases ej : k % 64 = j
          · subst ej
            rw [hty] at hj
            cases hj
            exact ⟨x, by rw [List.getElem?_set_self hlt], hT⟩
          · obtain ⟨y, y1, y2⟩ := h5 j ty' hj
            exact ⟨y, by rw [List.getElem?_set_ne ej]; exact y1, y2⟩
        have hF := bFr_set h1 hcf
        have hx := bEx_of hF
        rw [aF_eq] at g
        obtain ⟨n0, g0, G, D, N, O, A⟩ := S
        dsimp only at g
        rw [bFil_eq] at g
        have hO : bmO ι (h.set p (.inr (ci, fs.set (k % 64) x))) (O.filter (fun e => !(Nat.beq e.1 (K * 64 + k % 64)))) := by
          intro e' he
          obtain ⟨m1, m2⟩ := List.mem_filter.mp he
          rw [aBq, Bool.not_eq_true', decide_eq_false_iff_not] at m2
          obtain ⟨k0, ci', fs', w', k1, k2, k3⟩ := q.2.2.2.2.1 e' m1
          by_cases e1 : p = e'.1 / 64
          · have e2 : K = e'.1 / 64 := by
              rw [← hk, e1]
              exact (bOne_k k0 _).2
            have e3 : k % 64 ≠ e'.1 % 64 := by omega
            rw [← e1, h1] at k1
            cases k1
            refine ⟨k0, ci, _, w', by rw [← e1]; exact s_set_eq h1, ?_, bmV_mono (bLe_refl ι) hx k3⟩
            rw [List.getElem?_set_ne e3]
            exact k2
          · exact ⟨k0, ci', fs', w', by rw [s_set_ne e1]; exact k1, k2, bmV_mono (bLe_refl ι) hx k3⟩
        have hA := bmA_obj q.2.2.2.2.2 h1 hx
        have hH' := bH_set hH h1 hcf h7 hcm (bP_obj hH.2.2 h1 hk b9)
        cases hb : bOne K with
        | false =>
          rw [hb] at g
          exact ⟨ι, _, r, s, _, e, g, bLe_refl ι, bmS_heap q hO hA, bmT1_mono (bLe_refl ι) hx hs, rfl, hH', hF⟩
        | true =>
          rw [hb] at g
          have hp := bOne_p hb hk
          subst hp
          have hdiv : (p * 64 + k % 64) / 64 = p := by omega
          have hmod : (p * 64 + k % 64) % 64 = k % 64 := by omega
          refine ⟨ι, _, r, s, _, e, g, bLe_refl ι, bmS_heap q ?_ hA, bmT1_mono (bLe_refl ι) hx hs, rfl, hH', hF⟩
          intro e' he
          rcases List.mem_cons.mp he with rfl | he
          · refine ⟨by dsimp only; rw [hdiv]; exact hb, ci, fs.set (k % 64) x, x, by dsimp only; rw [hdiv]; exact s_set_eq h1, by dsimp only; rw [hmod, List.getElem?_set_self hlt], bmV_mono (bLe_refl ι) hx hv⟩
          · exact hO e' he
      · cases g
    · cases g
  · cases g
theorem b_cm_int {t n : Nat} {lo hi : Int} {cs : List Int} {c : va_E} (hm : bCm h (.inl (t, n, .inl (lo, hi), cs)) c) : ∃ fi, c = .inl (t, n, .inl fi) ∧ (∀ i, i < n → lo ≤ (fi i).toInt ∧ (fi i).toInt ≤ hi) ∧ (∀ i z, cs[i]? = some z → (fi i).toInt = z) := hm
theorem b_cm_long {t n K : Nat} {cs : List Int} {c : va_E} (hm : bCm h (.inl (t, n, .inr (0, K), cs)) c) : ∃ fl, c = .inl (t, n, .inr (.inl fl)) := hm
theorem b_cm_ref {t n k K : Nat} {cs : List Int} {c : va_E} (hm : bCm h (.inl (t, n, .inr (k, K), cs)) c) (hk : 0 < k) : ∃ fr, c = .inl (t, n, .inr (.inr (.inr (.inr fr)))) ∧ ∀ i, i < n → bT h (.inr (k, K)) (va_rf (fr i)) := by
  obtain ⟨j, rfl⟩ : ∃ j, k = j + 1 := ⟨k - 1, by omega⟩
  exact hm
/-- the types of an array's elements by its tag -/
def bTag (t : Nat) (ty : bTy) : Bool := match ty with
  | .inl (lo, hi) => Nat.beq t 0 || (Nat.beq t 2 && (decide (0 ≤ lo) && decide (hi ≤ 1)))
  | .inr (k, _) => bif Nat.beq k 0 then Nat.beq t 1 else Nat.blt 2 t
theorem bGl_tag : ∀ K, K < 128 → (match bGam K with
  | some (.inl (t, _, ty, _)) => bTag t ty
  | _ => true) = true := by decide +kernel
theorem b_tag {K t n : Nat} {ty : bTy} {cs : List Int} (hg : bGam K = some (.inl (t, n, ty, cs))) : bTag t ty = true := by
  have h1 := bGl_tag K (bGam_lt hg)
  rw [hg] at h1
  exact h1
theorem bLdv_ok {t : Nat} (g : bLdv t S st f = true) (hH : bH h) (q : bmS ι h S) (hs : bmT1 ι h st ws) : bHo ι h W S f (bif Nat.beq t 1 then sLdAL ws h else sLdAI t ws h) := by
  unfold bLdv at g
  split at g
  · rename_i a v r
    replace hs := bmT1_cons hs
    obtain ⟨w, s1, rfl, ⟨x, rfl, ha⟩, hs⟩ := hs
    replace hs := bmT1_cons hs
    obtain ⟨w2, s, rfl, hv, hs⟩ := hs
    split at g
    · rename_i K t' n ty cs ho
      obtain ⟨p, c, rfl, hc, hm, hk, hg⟩ := bArr_ok ho hH q hv
      replace g := b_bif g
      obtain ⟨b1, g⟩ := g
      replace b1 := aBa b1
      obtain ⟨b1, b2⟩ := b1
      have et := aBt b1
      subst et
      obtain ⟨i1, i2, i3⟩ := bIx_ok b2 q ha
      have htag := b_tag hg
      rcases ty with ⟨lo, hi⟩ | ⟨k, K'⟩
      · obtain ⟨fi, rfl, f1, f2⟩ := b_cm_int hm
        have t1 : t' ≠ 1 := by
          intro z
          subst z
          cases htag
        have e : (bif Nat.beq t' 1 then sLdAL (.int x :: .ref p :: s) h else sLdAI t' (.int x :: .ref p :: s) h) = some (.int (fi x.toNatClampNeg) :: s, h) := by
          rw [aBq, decide_eq_false t1]
          show sLdAI t' (.int x :: .ref p :: s) h = _
          unfold sLdAI
          dsimp only
          rw [hc]
          dsimp only
          rw [if_pos ⟨rfl, i1⟩]
        have hT : bT h (.inl (lo, hi)) (.int (fi x.toNatClampNeg)) := ⟨_, rfl, f1 _ i2⟩
        have h0 := bI_ok q ha
        dsimp only at g
        generalize bI S a = pp at g h0
        obtain ⟨u, y⟩ := pp
        unfold aW at h0
        dsimp only at g h0
        cases hd : decide (u = y) with
        | true =>
          rw [hd] at g
          replace hd := of_decide_eq_true hd
          dsimp only [cond] at g
          cases hz : aNth cs u.toNat with
          | some z =>
            rw [hz] at g
            rw [aNth_eq] at hz
            refine bHo_same g hH q e ⟨⟨_, rfl, ?_⟩, hs⟩
            have e5 : x.toNatClampNeg = u.toNat := by omega
            rw [← e5] at hz
            exact f2 _ _ hz
          | none =>
            rw [hz] at g
            exact bHo_read (ty := .inl (lo, hi)) g hH q hs hT e
        | false =>
          rw [hd] at g
          exact bHo_read (ty := .inl (lo, hi)) g hH q hs hT e
      · replace g := b_bif g
        obtain ⟨g1, g⟩ := g
        have hk0 := aBt g1
        subst hk0
        have et : t' = 1 := aBt htag
        subst et
        obtain ⟨fl, rfl⟩ := b_cm_long hm
        refine bHo_same (ws' := .long (fl x.toNatClampNeg) :: s) g hH q ?_ ⟨⟨_, rfl⟩, hs⟩
        show sLdAL (.int x :: .ref p :: s) h = _
        unfold sLdAL
        dsimp only
        rw [hc]
        dsimp only
        rw [if_pos ⟨rfl, i1⟩]
    · cases g
  · cases g
theorem bLda_ok (g : bLda S st f = true) (hH : bH h) (q : bmS ι h S) (hs : bmT1 ι h st ws) : bHo ι h W S f (sLdAA ws h) := by
  unfold bLda at g
  split at g
  · rename_i a v r
    replace hs := bmT1_cons hs
    obtain ⟨w, s1, rfl, ⟨x, rfl, ha⟩, hs⟩ := hs
    replace hs := bmT1_cons hs
    obtain ⟨w2, s, rfl, hv, hs⟩ := hs
    split at g
    · rename_i K t n ty cs ho
      obtain ⟨p, c, rfl, hc, hm, hk, hg⟩ := bArr_ok ho hH q hv
      replace g := b_bif g
      obtain ⟨b1, g⟩ := g
      replace b1 := aBa b1
      obtain ⟨b1, b2⟩ := b1
      replace b1 := aBa b1
      obtain ⟨b1, b3⟩ := b1
      replace b1 := aBl b1
      replace b3 := aBl b3
      obtain ⟨i1, i2, i3⟩ := bIx_ok b2 q ha
      have htag := b_tag hg
      rcases ty with ⟨lo, hi⟩ | ⟨k, K'⟩
      · exfalso
        unfold bTag at htag
        rw [aBq, aBq, decide_eq_false (show ¬ t = 0 by omega), decide_eq_false (show ¬ t = 2 by omega)] at htag
        cases htag
      · have hk0 : 0 < k := by
          by_cases z : k = 0
          · subst z
            have : t = 1 := aBt htag
            omega
          · omega
        obtain ⟨fr, rfl, f1⟩ := b_cm_ref hm hk0
        have ht5 : t = 3 ∨ t = 4 ∨ t = 5 := by omega
        have e : sLdAA (.int x :: .ref p :: s) h = some (va_rf (fr x.toNatClampNeg) :: s, h) := by
          unfold sLdAA
          dsimp only
          rw [hc]
          dsimp only
          rw [if_pos ⟨ht5, i1⟩]
        have hT := f1 _ i2
        cases hb : bOne K with
        | false =>
          rw [hb] at g
          dsimp only [cond] at g
          exact bHo_read g hH q hs hT e
        | true =>
          rw [hb] at g
          dsimp only [cond] at g
          have hp := bOne_p hb hk
          subst hp
          split at g
          · rename_i y hy
            obtain ⟨-, t2, n2, f2, j, k1, k2, k3⟩ := q.2.2.2.2.2 _ (bAf_mem hy)
            dsimp only at k1 k2 k3
            rw [hc] at k1
            cases k1
            have e9 : j = x := by
              cases a with
              | inl i =>
                have z1 : ι[i]? = some (.int j) := k2
                have z2 : ι[i]? = some (.int x) := ha
                rw [z1] at z2
                cases z2
                rfl
              | inr c0 =>
                have z1 : j.toInt = c0 := k2
                have z2 : x.toInt = c0 := ha
                exact Int32.toInt_inj.mp (z1.trans z2.symm)
            subst e9
            exact bHo_same g hH q e ⟨k3, hs⟩
          · obtain ⟨ι', S', v', g1, g2, g3, g4, g5⟩ := bMk_ok g q hT
            obtain ⟨n0, g0, G, D, N, O, A⟩ := S'
            refine ⟨ι', _, _, _, h, e, g1, g2, ⟨g3.1, g3.2.1, g3.2.2.1, g3.2.2.2.1, g3.2.2.2.2.1, ?_⟩, ⟨g4, bmT1_mono g2 (bEx_refl h) hs⟩, g5, hH, bFr_refl W h⟩
            intro e' he
            rcases List.mem_cons.mp he with rfl | he
            · exact ⟨hb, t, n, fr, x, hc, bmI_mono g2 ha, g4⟩
            · exact g3.2.2.2.2.2 e' he
    · cases g
  · cases g
theorem bmA_arr {p : Nat} {c c' : va_E} {A : List (Nat × bN × bV)} (q : bmA ι h A) (hx : bEx h (h.set p c')) (hp : ∀ e ∈ A, bOne e.1 = true → p ≠ e.1) : bmA ι (h.set p c') A := fun e he => by
  obtain ⟨h0, t, n, f, j, h1, h2, h3⟩ := q e he
  exact ⟨h0, t, n, f, j, by rw [s_set_ne (hp e he h0)]; exact h1, h2, bmV_mono (bLe_refl ι) hx h3⟩
theorem bmA_num {p t n : Nat} {d : (Nat → Int32) ⊕ (Nat → Int64) ⊕ (Nat → UInt32) ⊕ (Nat → UInt64) ⊕ (Nat → Option Nat)} {c' : va_E} {A : List (Nat × bN × bV)} (q : bmA ι h A) (hc : h[p]? = some (.inl (t, n, d))) (hd : ∀ fr, d ≠ .inr (.inr (.inr (.inr fr)))) (hx : bEx h (h.set p c')) : bmA ι (h.set p c') A := fun e he => by
  obtain ⟨h0, t, n, f, j, h1, h2, h3⟩ := q e he
  refine ⟨h0, t, n, f, j, ?_, h2, bmV_mono (bLe_refl ι) hx h3⟩
  by_cases e1 : p = e.1
  · subst e1
    rw [hc] at h1
    cases h1
    exact absurd rfl (hd f)
  · rw [s_set_ne e1]
    exact h1
theorem bStv_ok {t : Nat} (g : bStv t W S st f = true) (hH : bH h) (q : bmS ι h S) (hs : bmT1 ι h st ws) (ht : t = 0 ∨ t = 1 ∨ t = 2) : bHo ι h W S f (bif Nat.beq t 1 then sStAL ws h else bif Nat.beq t 0 then sStAI ws h else sStAZ ws h) := by
  unfold bStv at g
  split at g
  · rename_i v a u r
    replace hs := bmT1_cons hs
    obtain ⟨w, s1, rfl, hv, hs⟩ := hs
    replace hs := bmT1_cons hs
    obtain ⟨w1, s2, rfl, ⟨x, rfl, ha⟩, hs⟩ := hs
    replace hs := bmT1_cons hs
    obtain ⟨w2, s, rfl, hu, hs⟩ := hs
    split at g
    · rename_i K t' n ty cs ho
      obtain ⟨p, c, rfl, hc, hm, hk, hg⟩ := bArr_ok ho hH q hu
      replace g := b_bif g
      obtain ⟨b1, g⟩ := g
      replace b1 := aBa b1
      obtain ⟨b1, b2⟩ := b1
      replace b2 := aBa b2
      obtain ⟨b2, b3⟩ := b2
      replace b3 := aBa b3
      obtain ⟨b3, b4⟩ := b3
      replace b4 := aBa b4
      obtain ⟨b4, b5⟩ := b4
      obtain ⟨b5, b9⟩ := aBa b5
      rw [Bool.not_eq_true'] at b9
      have et := aBt b1
      subst et
      obtain ⟨i1, i2, i3⟩ := bIx_ok b2 q ha
      have htag := b_tag hg
      have hT := bFit_ok b3 q hv
      have hcs : cs = [] := List.isEmpty_iff.mp b4
      subst hcs
      obtain ⟨n0, g0, G, D, N, O, A⟩ := S
      rcases ty with ⟨lo, hi⟩ | ⟨k, K'⟩
      · obtain ⟨fi, rfl, f1, -⟩ := b_cm_int hm
        obtain ⟨y, rfl, hy⟩ := hT
        have t1 : t' ≠ 1 := by
          intro z
          subst z
          cases htag
        have hcf : bCf W (bKp p (.inl (t', n, .inl fi))) (.inl (t', n, .inl fi)) (.inl (t', n, .inl (upd fi x.toNatClampNeg y))) := by
          refine ⟨rfl, rfl, fun hj => ?_⟩
          rw [hk, b5] at hj
          cases hj
        have hcm : bCm h (.inl (t', n, .inl (lo, hi), [])) (.inl (t', n, .inl (upd fi x.toNatClampNeg y))) := by
          refine ⟨_, rfl, fun i hi => ?_, fun i z hz => by cases hz⟩
          unfold upd
          split
          · exact hy
          · exact f1 i hi
        have hF := bFr_set hc hcf
        have hx := bEx_of hF
        refine ⟨ι, _, r, s, _, ?_, g, bLe_refl ι, bmS_heap q (bmO_arr q.2.2.2.2.1 hc hx) (bmA_num q.2.2.2.2.2 hc (fun fr z => by cases z) hx), bmT1_mono (bLe_refl ι) hx hs, rfl, bH_set hH hc hcf (by rw [hk]; exact hg) hcm (bP_arr hH.2.2 hc (bP_ne hk b9).1 (bP_ne hk b9).2), hF⟩
        rw [aBq, decide_eq_false t1]
        rcases ht with rfl | e | rfl
        · show sStAI (.int y :: .int x :: .ref p :: s) h = _
          unfold sStAI
          dsimp only
          rw [hc]
          dsimp only
          rw [if_pos ⟨rfl, i1⟩]
        · exact absurd e t1
        · show sStAZ (.int y :: .int x :: .ref p :: s) h = _
          have hb : y = 0 ∨ y = 1 := by
            obtain ⟨z1, z2⟩ := aBa (show (decide (0 ≤ lo) && decide (hi ≤ 1)) = true from htag)
            exact b_bit (of_decide_eq_true z1) (of_decide_eq_true z2) hy.1 hy.2
          unfold sStAZ
          dsimp only
          rw [hc]
          dsimp only
          rw [if_pos ⟨rfl, hb, i1⟩]
      · have hk0 : k = 0 := by
          by_cases z : k = 0
          · exact z
          · exfalso
            unfold bTag at htag
            dsimp only at htag
            rw [aBq, decide_eq_false z] at htag
            have := aBl htag
            omega
        subst hk0
        have et : t' = 1 := aBt htag
        subst et
        obtain ⟨fl, rfl⟩ := b_cm_long hm
        obtain ⟨y, rfl⟩ := hT
        have hcf : bCf W (bKp p (.inl (1, n, .inr (.inl fl)))) (.inl (1, n, .inr (.inl fl))) (.inl (1, n, .inr (.inl (vp_updL fl x.toNatClampNeg y)))) := by
          refine ⟨rfl, rfl, fun hj => ?_⟩
          rw [hk, b5] at hj
          cases hj
        have hcm : bCm h (.inl (1, n, .inr (0, K'), [])) (.inl (1, n, .inr (.inl (vp_updL fl x.toNatClampNeg y)))) := ⟨_, rfl⟩
        have hF := bFr_set hc hcf
        have hx := bEx_of hF
        refine ⟨ι, _, r, s, _, ?_, g, bLe_refl ι, bmS_heap q (bmO_arr q.2.2.2.2.1 hc hx) (bmA_num q.2.2.2.2.2 hc (fun fr z => by cases z) hx), bmT1_mono (bLe_refl ι) hx hs, rfl, bH_set hH hc hcf (by rw [hk]; exact hg) hcm (bP_arr hH.2.2 hc (bP_ne hk b9).1 (bP_ne hk b9).2), hF⟩
        show sStAL (.long y :: .int x :: .ref p :: s) h = _
        unfold sStAL
        dsimp only
        rw [hc]
        dsimp only
        rw [if_pos ⟨rfl, i1⟩]
    · cases g
  · cases g
theorem b_isobj {q0 : Nat} (hH : bH h) (hq : bIn h 113 q0) : sIsObj 4 h[q0]? = true := by
  obtain ⟨ci, fs, h1, h2, -, -, -, h3, h4⟩ := bIn_obj hH hq (ci0 := 2) rfl
  rw [h1]
  rcases bKK_cases h4 with e | ⟨-, e⟩
  · rw [e] at h3
    exact absurd (bGam_lt h3) (by intro; have : bGam 113 = none := rfl; rw [this] at h3; cases h3)
  · have key : ci = 0 ∨ ci = 1 ∨ ci = 2 ∨ ci = 4 ∨ ci = 5 ∨ ci = 9 ∨ ci = 10 := by
      rcases bIsC_cases e with e | e | e | e | e | e | e <;> rw [e] at h3 <;> cases h3 <;> simp
    rcases key with rfl | rfl | rfl | rfl | rfl | rfl | rfl <;> rfl
theorem bSta_ok (g : bSta W S st f = true) (hH : bH h) (q : bmS ι h S) (hs : bmT1 ι h st ws) : bHo ι h W S f (sStAA ws h) := by
  unfold bSta at g
  split at g
  · rename_i v a u r
    replace hs := bmT1_cons hs
    obtain ⟨w, s1, rfl, hv, hs⟩ := hs
    replace hs := bmT1_cons hs
    obtain ⟨w1, s2, rfl, ⟨x, rfl, ha⟩, hs⟩ := hs
    replace hs := bmT1_cons hs
    obtain ⟨w2, s, rfl, hu, hs⟩ := hs
    split at g
    · rename_i K t n ty cs ho
      obtain ⟨p, c, rfl, hc, hm, hk, hg⟩ := bArr_ok ho hH q hu
      replace g := b_bif g
      obtain ⟨b1, g⟩ := g
      replace b1 := aBa b1
      obtain ⟨b1, b2⟩ := b1
      replace b2 := aBa b2
      obtain ⟨b2, b3⟩ := b2
      replace b3 := aBa b3
      obtain ⟨b3, b4⟩ := b3
      replace b4 := aBa b4
      obtain ⟨b4, b5⟩ := b4
      have et := aBt b1
      subst et
      obtain ⟨i1, i2, i3⟩ := bIx_ok b2 q ha
      have hT := bFit_ok b3 q hv
      rcases ty with ⟨lo, hi⟩ | ⟨k, K'⟩
      · cases b5
      · replace b5 := aBa b5
        obtain ⟨c1, c2⟩ := b5
        replace c1 := aBt c1
        replace c2 := aBt c2
        subst c1 c2
        obtain ⟨fr, rfl, f1⟩ := b_cm_ref hm (by decide)
        obtain ⟨n0, g0, G, D, N, O, A⟩ := S
        dsimp only at g
        rw [bFil_eq] at g
        have fin : ∀ (o : Option Nat), va_rf o = w → bHo ι h W (n0, g0, G, D, N, O, A) f (some (s, h.set p (.inl (4, n, .inr (.inr (.inr (.inr (va_up fr x.toNatClampNeg o)))))))) := by
          intro o ho
          have hcf : bCf W (bKp p (.inl (4, n, .inr (.inr (.inr (.inr fr)))))) (.inl (4, n, .inr (.inr (.inr (.inr fr))))) (.inl (4, n, .inr (.inr (.inr (.inr (va_up fr x.toNatClampNeg o)))))) := by
            refine ⟨rfl, rfl, fun hj => ?_⟩
            rw [hk, b4] at hj
            cases hj
          have hcm : bCm h (.inl (4, n, .inr (3, 113), cs)) (.inl (4, n, .inr (.inr (.inr (.inr (va_up fr x.toNatClampNeg o)))))) := by
            refine ⟨_, rfl, fun i hi => ?_⟩
            unfold va_up
            split
            · rw [ho]; exact hT
            · exact f1 i hi
          have hF := bFr_set hc hcf
          have hx := bEx_of hF
          refine ⟨ι, _, r, s, _, rfl, g, bLe_refl ι, bmS_heap q (bmO_arr q.2.2.2.2.1 hc hx) (bmA_arr (c := .inr (0, [])) (fun e he => q.2.2.2.2.2 e (List.mem_filter.mp he).1) hx (fun e he h0 z => ?_)), bmT1_mono (bLe_refl ι) hx hs, rfl, bH_set hH hc hcf (by rw [hk]; exact hg) hcm (bP_arr hH.2.2 hc (bP_tag hH.2.2 hc (by decide)).1 (bP_tag hH.2.2 hc (by decide)).2), hF⟩
          have m2 := (List.mem_filter.mp he).2
          rw [aBq, Bool.not_eq_true', decide_eq_false_iff_not] at m2
          apply m2
          rw [← hk, z]
          exact ((bOne_k h0 _).2).symm
        have hw : w = .null ∨ ∃ p, w = .ref p ∧ bIn h 113 p := hT
        rcases hw with rfl | ⟨q0, rfl, hq⟩
        · have e : sStAA (.null :: .int x :: .ref p :: s) h = some (s, h.set p (.inl (4, n, .inr (.inr (.inr (.inr (va_up fr x.toNatClampNeg none))))))) := by
            unfold sStAA
            dsimp only
            rw [hc]
            dsimp only
            rw [if_pos ⟨Or.inr rfl, i1⟩]
          rw [e]
          exact fin none rfl
        · have e : sStAA (.ref q0 :: .int x :: .ref p :: s) h = some (s, h.set p (.inl (4, n, .inr (.inr (.inr (.inr (va_up fr x.toNatClampNeg (some q0)))))))) := by
            unfold sStAA
            dsimp only
            rw [hc]
            dsimp only
            rw [if_pos ⟨b_isobj hH hq, i1⟩]
          rw [e]
          exact fin (some q0) rfl
    · cases g
  · cases g
theorem b_ofNat (k : Nat) : (Int32.ofNat k).toInt = (k : Int).bmod 4294967296 := Int32.toInt_ofNat' 
theorem bHeap_ok {ins : Instr} (g : bHeap W ins S st f = true) (hH : bH h) (q : bmS ι h S) (hs : bmT1 ι h st ws) : bHo ι h W S f (sHeap ins ws h) := by
  unfold bHeap at g
  split at g
  · exact bGet_ok g hH q hs
  · exact bPtf_ok g hH q hs
  · exact bLdv_ok (t := 0) g hH q hs
  · exact bLdv_ok (t := 2) g hH q hs
  · exact bLdv_ok (t := 1) g hH q hs
  · exact bLda_ok g hH q hs
  · exact bStv_ok (t := 0) g hH q hs (Or.inl rfl)
  · exact bStv_ok (t := 2) g hH q hs (Or.inr (Or.inr rfl))
  · exact bStv_ok (t := 1) g hH q hs (Or.inr (Or.inl rfl))
  · exact bSta_ok g hH q hs
  · split at g
    · rename_i v r
      replace hs := bmT1_cons hs
      obtain ⟨w2, s, rfl, hv, hs⟩ := hs
      split at g
      · rename_i K t n ty cs ho
        obtain ⟨p, c, rfl, hc, hm, hk, hg⟩ := bArr_ok ho hH q hv
        replace g := b_bif g
        obtain ⟨b1, g⟩ := g
        replace b1 := aBa b1
        obtain ⟨b1, b2⟩ := b1
        replace b1 := aBl b1
        replace b2 := aBl b2
        rw [aF_eq] at g
        have hd : ∃ d, c = .inl (t, n, d) := by
          rcases ty with ⟨lo, hi⟩ | ⟨k, K'⟩
          · obtain ⟨fi, rfl, -⟩ := b_cm_int hm
            exact ⟨_, rfl⟩
          · by_cases z : k = 0
            · subst z
              obtain ⟨fi, rfl⟩ := b_cm_long hm
              exact ⟨_, rfl⟩
            · obtain ⟨fi, rfl, -⟩ := b_cm_ref hm (by omega)
              exact ⟨_, rfl⟩
        obtain ⟨d, rfl⟩ := hd
        refine bHo_same (ws' := .int (Int32.ofNat n) :: s) g hH q ?_ ⟨⟨_, rfl, Int32.toInt_ofNat_of_lt (by omega)⟩, hs⟩
        show sALen (.ref p :: s) h = _
        unfold sALen
        dsimp only
        rw [hc]
        dsimp only
        rw [if_pos b1]
      · cases g
    · cases g
  · exact bHo_same g hH q rfl ⟨⟨_, rfl⟩, hs⟩
  · rename_i k
    cases h1 : Nat.blt k 2147483648 with
    | true =>
      rw [h1] at g
      replace h1 := aBl h1
      exact bHo_same g hH q (if_pos (by omega)) ⟨⟨_, rfl, Int32.toInt_ofNat_of_lt (by omega)⟩, hs⟩
    | false =>
      rw [h1] at g
      dsimp only [cond] at g
      have h1' : ¬ k < 2147483648 := fun z => by
        rw [show Nat.blt k 2147483648 = true from Nat.ble_eq_true_of_le z] at h1
        cases h1
      cases h2 : Nat.blt k 4294967296 with
      | true =>
        rw [h2] at g
        replace h2 := aBl h2
        dsimp only [cond] at g
        rw [aF_eq] at g
        refine bHo_same g hH q (if_pos h2) ⟨⟨_, rfl, ?_⟩, hs⟩
        show (Int32.ofNat k).toInt = Int.negSucc (4294967295 - k)
        rw [b_ofNat k]
        rw [Int.negSucc_eq]
        have e : (k : Int).bmod 4294967296 = (k : Int) - 4294967296 := by
          rw [Int.bmod_def]
          omega
        rw [e]
        omega
      | false =>
        rw [h2] at g
        dsimp only [cond] at g
        have h2' : ¬ k < 4294967296 := fun z => by
          rw [show Nat.blt k 4294967296 = true from Nat.ble_eq_true_of_le z] at h2
          cases h2
        obtain ⟨h3, g⟩ := b_bif g
        replace h3 := aBl h3
        rw [aF_eq] at g
        refine bHo_same g hH q ((if_neg h2').trans (if_pos h3)) ⟨⟨_, rfl, Or.inr (Or.inr ⟨by omega, ?_⟩)⟩, hs⟩
        omega
  · rename_i k
    cases h1 : Nat.blt k 2147483648 with
    | true =>
      rw [h1] at g
      replace h1 := aBl h1
      exact bHo_same g hH q rfl ⟨⟨_, rfl, Int32.toInt_ofNat_of_lt (by omega)⟩, hs⟩
    | false =>
      rw [h1] at g
      dsimp only [cond] at g
      have h1' : ¬ k < 2147483648 := fun z => by
        rw [show Nat.blt k 2147483648 = true from Nat.ble_eq_true_of_le z] at h1
        cases h1
      cases h2 : Nat.blt k 4294967296 with
      | true =>
        rw [h2] at g
        replace h2 := aBl h2
        dsimp only [cond] at g
        rw [aF_eq] at g
        refine bHo_same g hH q rfl ⟨⟨_, rfl, ?_⟩, hs⟩
        show (Int32.ofNat k).toInt = Int.negSucc (4294967295 - k)
        rw [b_ofNat k]
        rw [Int.negSucc_eq]
        have e : (k : Int).bmod 4294967296 = (k : Int) - 4294967296 := by
          rw [Int.bmod_def]
          omega
        rw [e]
        omega
      | false =>
        rw [h2] at g
        dsimp only [cond] at g
        cases g
  · cases g
end HEAP
end
section
/-! ===== the second executor: jumps, answers, arguments ===== -/
def bGo (pc : Nat) (off : Int) (f : Nat → Bool) : Bool := match sTgt pc off with
  | some t => aF t f
  | none => false
theorem bGo_ok {pc : Nat} {off : Int} {f : Nat → Bool} (g : bGo pc off f = true) : ∃ t, sTgt pc off = some t ∧ f t = true := by
  unfold bGo at g
  cases h : sTgt pc off with
  | none => rw [h] at g; cases g
  | some t =>
    rw [h] at g
    dsimp only at g
    rw [aF_eq] at g
    exact ⟨t, rfl, g⟩
def bNl (S : bS) (v : bV) (fN fR : bS → Bool) : Bool := match v with
  | .inr (t, _) => (match t with
    | 0 => false
    | 1 => fN S
    | 2 => fR S
    | k + 3 => (match bNn S.2.2.2.2.1 k with
      | some true => fR S
      | some false => fN S
      | none => (match S with
        | (n, g, G, D, N, r) => fN (n, g, G, D, (k, false) :: N, r) && fR (n, g, G, D, (k, true) :: N, r))))
  | _ => false
theorem bNl_ok {ι : List Value} {h : sHp} {S : bS} {v : bV} {w : Value} {fN fR : bS → Bool} (g : bNl S v fN fR = true) (q : bmS ι h S) (hv : bmV ι h v w) : (w = .null ∧ ∃ S', fN S' = true ∧ bmS ι h S' ∧ S'.2.1 = S.2.1) ∨ ((∃ p, w = .ref p) ∧ ∃ S', fR S' = true ∧ bmS ι h S' ∧ S'.2.1 = S.2.1) := by
  rcases v with a | ⟨t, K⟩
  · cases g
  · match t, g, hv with
    | 0, g, _ => cases g
    | 1, g, hv => exact Or.inl ⟨hv, S, g, q, rfl⟩
    | 2, g, hv =>
      obtain ⟨p, e, -⟩ := hv
      exact Or.inr ⟨⟨p, e⟩, S, g, q, rfl⟩
    | k + 3, g, hv =>
      obtain ⟨h1, h2⟩ := hv
      obtain ⟨n, g0, G, D, N, r⟩ := S
      have g' : (match bNn N k with
        | some true => fR (n, g0, G, D, N, r)
        | some false => fN (n, g0, G, D, N, r)
        | none => fN (n, g0, G, D, (k, false) :: N, r) && fR (n, g0, G, D, (k, true) :: N, r)) = true := g
      have hn := fun b => bNn_ok (b := b) h1 q.2.2.2.1
      cases hb : bNn N k with
      | some b =>
        rw [hb] at g'
        obtain ⟨n1, n2⟩ := hn b hb
        cases b with
        | true =>
          rcases h2 with e | ⟨p, e, -⟩
          · exact absurd e (n1 rfl)
          · exact Or.inr ⟨⟨p, e⟩, _, g', q, rfl⟩
        | false => exact Or.inl ⟨n2 rfl, _, g', q, rfl⟩
      | none =>
        rw [hb] at g'
        obtain ⟨ga, gb⟩ := aBa g'
        rcases h2 with e | ⟨p, e, -⟩
        · refine Or.inl ⟨e, _, ga, ⟨q.1, q.2.1, q.2.2.1, ?_, q.2.2.2.2⟩, rfl⟩
          intro e' he
          have he : e' ∈ (k, false) :: N := he
          rcases List.mem_cons.mp he with rfl | he
          · exact ⟨w, h1, (fun z => by cases z), fun _ => e⟩
          · exact q.2.2.2.1 e' he
        · refine Or.inr ⟨⟨p, e⟩, _, gb, ⟨q.1, q.2.1, q.2.2.1, ?_, q.2.2.2.2⟩, rfl⟩
          intro e' he
          have he : e' ∈ (k, true) :: N := he
          rcases List.mem_cons.mp he with rfl | he
          · exact ⟨w, h1, (fun _ z => by rw [e] at z; cases z), (fun z => by cases z)⟩
          · exact q.2.2.2.1 e' he
def bTs (pc : Nat) (S : bS) (a : bN) (f : Nat → bS → Bool) : Int → List Int → Bool
  | _, [] => true
  | lo, off :: r => aFc lo fun lo => (bGo pc off fun t => bRf S a lo lo (f t)) && bTs pc S a f (lo + 1) r
theorem bTs_ok {ι : List Value} {h : sHp} {pc : Nat} {S : bS} {a : bN} {f : Nat → bS → Bool} (q : bmS ι h S) {x : Int32} (hx : bmI ι a x) : ∀ (l : List Int) (lo : Int), bTs pc S a f lo l = true → lo ≤ x.toInt → x.toInt < lo + l.length → ∃ off t S', l[(x.toInt - lo).toNat]? = some off ∧ sTgt pc off = some t ∧ f t S' = true ∧ bmS ι h S' ∧ S'.2.1 = S.2.1 := by
  intro l
  induction l with
  | nil => intro lo _ h1 h2; rw [List.length_nil] at h2; omega
  | cons off r ih =>
    intro lo g h1 h2
    unfold bTs at g
    rw [aFc_eq] at g
    replace g := aBa g
    obtain ⟨g1, g2⟩ := g
    by_cases e : x.toInt = lo
    · obtain ⟨t, ht, g3⟩ := bGo_ok g1
      obtain ⟨S', k1, k2, k3⟩ := bRf_ok g3 q hx (by omega) (by omega)
      refine ⟨off, t, S', ?_, ht, k1, k2, k3⟩
      rw [show (x.toInt - lo).toNat = 0 by omega]
      rfl
    · rw [List.length_cons] at h2
      obtain ⟨off', t, S', k0, k1⟩ := ih (lo + 1) g2 (by omega) (by omega)
      refine ⟨off', t, S', ?_, k1⟩
      rw [show (x.toInt - lo).toNat = (x.toInt - (lo + 1)).toNat + 1 by omega, List.getElem?_cons_succ]
      exact k0
def bLk (pc : Nat) (S : bS) (a : bN) (f : Nat → bS → Bool) : List (Int × Int) → Bool
  | [] => true
  | e :: r => (bGo pc e.2 fun t => bRf S a e.1 e.1 (f t)) && bLk pc S a f r
theorem bLk_ok {ι : List Value} {h : sHp} {pc : Nat} {S : bS} {a : bN} {f : Nat → bS → Bool} {dflt : Int} (q : bmS ι h S) {x : Int32} (hx : bmI ι a x) (gd : (bGo pc dflt fun t => f t S) = true) : ∀ l : List (Int × Int), bLk pc S a f l = true → ∃ t S', sTgt pc (Op.lookupswitch.offset l dflt x.toInt) = some t ∧ f t S' = true ∧ bmS ι h S' ∧ S'.2.1 = S.2.1 := by
  intro l
  induction l with
  | nil =>
    intro _
    obtain ⟨t, ht, g3⟩ := bGo_ok gd
    exact ⟨t, S, ht, g3, q, rfl⟩
  | cons e r ih =>
    intro g
    obtain ⟨k, o⟩ := e
    unfold bLk at g
    replace g := aBa g
    obtain ⟨g1, g2⟩ := g
    have e1 : Op.lookupswitch.offset ((k, o) :: r) dflt x.toInt = if k = x.toInt then o else Op.lookupswitch.offset r dflt x.toInt := rfl
    by_cases e : k = x.toInt
    · obtain ⟨t, ht, g3⟩ := bGo_ok g1
      obtain ⟨S', k1, k2, k3⟩ := bRf_ok g3 q hx (by dsimp only; omega) (by dsimp only; omega)
      exact ⟨t, S', by rw [e1, if_pos e]; exact ht, k1, k2, k3⟩
    · rw [e1, if_neg e]
      exact ih g2
def bIf (sp : Bool) (c : Jvm.ClassFile.Cond) (pc : Nat) (off : Int) (S : bS) (a b : bN) (f : Nat → bS → Bool) : Bool := bGo pc off fun t => bCnd sp c S a b (f t) && aF (pc + 3) fun t1 => bCnd sp (bNg c) S a b (f t1)
def bJmp (sp : Bool) (ins : Instr) (pc : Nat) (S : bS) (st : List bV) (f : Nat → bS → List bV → Bool) : Bool := match ins with
  | .goto off => bGo pc off fun t => f t S st
  | .if_icmp c off => (match st with
    | .inl b :: .inl a :: r => bIf sp c pc off S a b (fun t S1 => f t S1 r)
    | _ => false)
  | .ifCond c off => (match st with
    | .inl a :: r => bIf sp c pc off S a (.inr 0) (fun t S1 => f t S1 r)
    | _ => false)
  | .ifnull off => (match st with
    | v :: r => bGo pc off fun t => aF (pc + 3) fun t1 => bNl S v (fun S1 => f t S1 r) (fun S1 => f t1 S1 r)
    | _ => false)
  | .ifnonnull off => (match st with
    | v :: r => bGo pc off fun t => aF (pc + 3) fun t1 => bNl S v (fun S1 => f t1 S1 r) (fun S1 => f t S1 r)
    | _ => false)
  | .tableswitch dflt lo hi offs => (match st with
    | .inl a :: r => (match bI S a with
      | (x, y) => (bGo pc dflt fun t => bRf S a x (lo - 1) (fun S1 => f t S1 r) && bRf S a (hi + 1) y (fun S1 => f t S1 r)) && (decide (hi < lo + offs.toList.length) && bTs pc S a (fun t S1 => f t S1 r) lo offs.toList))
    | _ => false)
  | .lookupswitch dflt ps => (match st with
    | .inl a :: r => (bGo pc dflt fun t => f t S r) && bLk pc S a (fun t S1 => f t S1 r) ps.toList
    | _ => false)
  | _ => false
def bJo (ι : List Value) (h : sHp) (S : bS) (f : Nat → bS → List bV → Bool) (o : Option (Nat × List Value)) : Prop := ∃ t S' st' ws', o = some (t, ws') ∧ f t S' st' = true ∧ bmS ι h S' ∧ bmT1 ι h st' ws' ∧ S'.2.1 = S.2.1
section JMP
variable {ι : List Value} {h : sHp} {S : bS} {st : List bV} {ws : List Value} {pc : Nat}
theorem bIf_ok {sp : Bool} {c : Jvm.ClassFile.Cond} {off : Int} {a b : bN} {r : List bV} {f : Nat → bS → List bV → Bool} {x y : Int32} {s : List Value} (g : bIf sp c pc off S a b (fun t S1 => f t S1 r) = true) (q : bmS ι h S) (hx : bmI ι a x) (hy : bmI ι b y) (hr : bmT1 ι h r s) : bJo ι h S f (sIf pc off (sC2 c x y) s) := by
  unfold bIf at g
  obtain ⟨t, ht, g⟩ := bGo_ok g
  replace g := aBa g
  obtain ⟨g1, g2⟩ := g
  rw [aF_eq] at g2
  cases hc : sC2 c x y with
  | true =>
    obtain ⟨S', k1, k2, k3⟩ := bCnd_ok g1 q hx hy hc
    refine ⟨t, S', r, s, ?_, k1, k2, hr, k3⟩
    unfold sIf
    rw [ht]; rfl
  | false =>
    obtain ⟨S', k1, k2, k3⟩ := bCnd_ok g2 q hx hy (bNg_ok hc)
    refine ⟨pc + 3, S', r, s, ?_, k1, k2, hr, k3⟩
    unfold sIf
    rw [ht]; rfl
theorem bJmp_ok {sp : Bool} {ins : Instr} {f : Nat → bS → List bV → Bool} (g : bJmp sp ins pc S st f = true) (q : bmS ι h S) (hs : bmT1 ι h st ws) : bJo ι h S f (sJmp ins pc ws) := by
  unfold bJmp at g
  split at g
  · rename_i off
    obtain ⟨t, ht, g⟩ := bGo_ok g
    refine ⟨t, S, st, ws, ?_, g, q, hs, rfl⟩
    show (sTgt pc off).map _ = _
    rw [ht]; rfl
  · split at g
    · rename_i b a r
      replace hs := bmT1_cons hs
      obtain ⟨w, s1, rfl, hx, hs⟩ := hs
      replace hs := bmT1_cons hs
      obtain ⟨v, s, rfl, hy, hs⟩ := hs
      obtain ⟨y, rfl, hb⟩ := hx
      obtain ⟨x, rfl, ha⟩ := hy
      exact bIf_ok g q ha hb hs
    · cases g
  · split at g
    · rename_i a r
      replace hs := bmT1_cons hs
      obtain ⟨w, s1, rfl, hx, hs⟩ := hs
      obtain ⟨x, rfl, ha⟩ := hx
      exact bIf_ok g q ha (show bmI ι (.inr 0) 0 from rfl) hs
    · cases g
  · rename_i off
    split at g
    · rename_i v r
      replace hs := bmT1_cons hs
      obtain ⟨w, s1, rfl, hx, hs⟩ := hs
      obtain ⟨t, ht, g⟩ := bGo_ok g
      rw [aF_eq] at g
      rcases bNl_ok g q hx with ⟨rfl, S', k1, k2, k3⟩ | ⟨⟨p, rfl⟩, S', k1, k2, k3⟩
      · refine ⟨t, S', r, s1, ?_, k1, k2, hs, k3⟩
        show sIf pc off true s1 = _
        unfold sIf
        rw [ht]; rfl
      · refine ⟨pc + 3, S', r, s1, ?_, k1, k2, hs, k3⟩
        show sIf pc off false s1 = _
        unfold sIf
        rw [ht]; rfl
    · cases g
  · rename_i off
    split at g
    · rename_i v r
      replace hs := bmT1_cons hs
      obtain ⟨w, s1, rfl, hx, hs⟩ := hs
      obtain ⟨t, ht, g⟩ := bGo_ok g
      rw [aF_eq] at g
      rcases bNl_ok g q hx with ⟨rfl, S', k1, k2, k3⟩ | ⟨⟨p, rfl⟩, S', k1, k2, k3⟩
      · refine ⟨pc + 3, S', r, s1, ?_, k1, k2, hs, k3⟩
        show sIf pc off false s1 = _
        unfold sIf
        rw [ht]; rfl
      · refine ⟨t, S', r, s1, ?_, k1, k2, hs, k3⟩
        show sIf pc off true s1 = _
        unfold sIf
        rw [ht]; rfl
    · cases g
  · rename_i dflt lo hi offs
    split at g
    · rename_i a r
      replace hs := bmT1_cons hs
      obtain ⟨w, s1, rfl, hx, hs⟩ := hs
      obtain ⟨x, rfl, ha⟩ := hx
      have h0 := bI_ok q ha
      generalize bI S a = p at g h0
      obtain ⟨u, y⟩ := p
      unfold aW at h0
      dsimp only at g h0
      replace g := aBa g
      obtain ⟨g1, g2⟩ := g
      replace g2 := aBa g2
      obtain ⟨g2, g3⟩ := g2
      replace g2 := of_decide_eq_true g2
      obtain ⟨t, ht, g1⟩ := bGo_ok g1
      replace g1 := aBa g1
      obtain ⟨g4, g5⟩ := g1
      have e : sJmp (.tableswitch dflt lo hi offs) pc (.int x :: s1) = if x.toInt < lo ∨ hi < x.toInt then (sTgt pc dflt).map (fun t => (t, s1)) else (match offs[(x.toInt - lo).toNat]? with
        | some off => (sTgt pc off).map (fun t => (t, s1))
        | none => none) := rfl
      rw [e]
      by_cases h1 : x.toInt < lo
      · rw [if_pos (Or.inl h1), ht]
        obtain ⟨S', k1, k2, k3⟩ := bRf_ok g4 q ha (by omega) (by omega)
        exact ⟨t, S', r, s1, rfl, k1, k2, hs, k3⟩
      · by_cases h2 : hi < x.toInt
        · rw [if_pos (Or.inr h2), ht]
          obtain ⟨S', k1, k2, k3⟩ := bRf_ok g5 q ha (by omega) (by omega)
          exact ⟨t, S', r, s1, rfl, k1, k2, hs, k3⟩
        · rw [if_neg (by omega)]
          obtain ⟨off, t', S', k0, k1, k2, k3, k4⟩ := bTs_ok q ha _ _ g3 (by omega) (by omega)
          rw [Array.getElem?_toList] at k0
          rw [k0]
          dsimp only
          rw [k1]
          exact ⟨t', S', r, s1, rfl, k2, k3, hs, k4⟩
    · cases g
  · rename_i dflt ps
    split at g
    · rename_i a r
      replace hs := bmT1_cons hs
      obtain ⟨w, s1, rfl, hx, hs⟩ := hs
      obtain ⟨x, rfl, ha⟩ := hx
      replace g := aBa g
      obtain ⟨g1, g2⟩ := g
      obtain ⟨t, S', k1, k2, k3, k4⟩ := bLk_ok q ha g1 _ g2
      refine ⟨t, S', r, s1, ?_, k2, k3, hs, k4⟩
      show (sTgt pc (Op.lookupswitch.offset ps.toList dflt x.toInt)).map _ = _
      rw [k1]; rfl
    · cases g
  · cases g
end JMP
/-! answers -/
def bmR (ι : List Value) (h : sHp) (v : Option bV) (r : Option Value) : Prop := match v, r with
  | none, none => True
  | some v, some w => bmV ι h v w
  | _, _ => False
def bRet (ins : Instr) (rt : Option FieldType) (S : bS) (st : List bV) (f : Option bV → Bool) : Bool := match ins with
  | .ireturn => (match st with
    | [.inl a] => (match rt with
      | some .int => f (some (.inl a))
      | some .boolean => (match bI S a with
        | (x, y) => bif decide (0 ≤ x) && decide (y ≤ 1) then f (some (.inl a)) else false)
      | _ => false)
    | _ => false)
  | .lreturn => (match st with
    | [v] => (match rt with
      | some .long => bif bJk v then f (some v) else false
      | _ => false)
    | _ => false)
  | .areturn => (match st with
    | [v] => (match rt with
      | some (.object _) => bif bLdK 2 v then f (some v) else false
      | _ => false)
    | _ => false)
  | .return_ => (match st with
    | [] => (match rt with
      | none => f none
      | _ => false)
    | _ => false)
  | _ => false
theorem bRet_ok {ι : List Value} {h : sHp} {ins : Instr} {rt : Option FieldType} {S : bS} {st : List bV} {ws : List Value} {f : Option bV → Bool} (g : bRet ins rt S st f = true) (q : bmS ι h S) (hs : bmT1 ι h st ws) : ∃ v r, sRet rt ins ws = some r ∧ f v = true ∧ bmR ι h v r := by
  unfold bRet at g
  split at g
  · split at g
    · rename_i a
      replace hs := bmT1_cons hs
      obtain ⟨w, s1, rfl, hx, hs⟩ := hs
      have e := bmT1_nil hs
      subst e
      obtain ⟨x, rfl, ha⟩ := hx
      split at g
      · exact ⟨_, some (.int x), if_pos rfl, g, x, rfl, ha⟩
      · have h0 := bI_ok q ha
        generalize bI S a = p at g h0
        obtain ⟨u, y⟩ := p
        unfold aW at h0
        dsimp only at g h0
        replace g := b_bif g
        obtain ⟨g1, g⟩ := g
        replace g1 := aBa g1
        obtain ⟨g1, g2⟩ := g1
        replace g1 := of_decide_eq_true g1
        replace g2 := of_decide_eq_true g2
        refine ⟨_, some (.int x), ?_, g, x, rfl, ha⟩
        rcases b_bit (x := x) (Int.le_refl 0) (Int.le_refl 1) (by omega) (by omega) with rfl | rfl
        · exact if_pos (c := narrow .boolean (.int 0) = .int 0) (e := none) rfl
        · exact if_pos (c := narrow .boolean (.int 1) = .int 1) (e := none) rfl
      · cases g
    · cases g
  · split at g
    · rename_i v
      replace hs := bmT1_cons hs
      obtain ⟨w, s1, rfl, hx, hs⟩ := hs
      have e := bmT1_nil hs
      subst e
      split at g
      · replace g := b_bif g
        obtain ⟨g1, g⟩ := g
        obtain ⟨x, rfl⟩ := bJk_ok g1 hx
        exact ⟨_, some (.long x), rfl, g, hx⟩
      · cases g
    · cases g
  · split at g
    · rename_i v
      replace hs := bmT1_cons hs
      obtain ⟨w, s1, rfl, hx, hs⟩ := hs
      have e := bmT1_nil hs
      subst e
      split at g
      · replace g := b_bif g
        obtain ⟨g1, g⟩ := g
        rcases bLdK_ok g1 hx with ⟨e, -⟩ | ⟨e, -⟩ | ⟨-, rfl | ⟨p, rfl⟩⟩
        · cases e
        · cases e
        · exact ⟨_, some .null, rfl, g, hx⟩
        · exact ⟨_, some (.ref p), rfl, g, hx⟩
      · cases g
    · cases g
  · split at g
    · have e := bmT1_nil hs
      subst e
      split at g
      · exact ⟨none, none, rfl, g, trivial⟩
      · cases g
    · cases g
  · cases g
/-! calls of the library's -/
def bSpc (ins : Instr) (S : bS) (st : List bV) (f : bS → List bV → Bool) : Bool := match ins with
  | .invokestatic k => (match st with
    | .inl b :: r => bif Nat.beq k 1002 then bNew (-2147483648) 2147483647 S (fun S x => f S (.inl x :: r)) else (match r with
      | .inl a :: r1 => (match bI S a with
        | (x, y) => (match bI S b with
          | (u, v) => bif Nat.beq k 1000 then bNew (max x u) (max y v) S (fun S x => f S (.inl x :: r1)) else (bif Nat.beq k 1001 then bNew (min x u) (min y v) S (fun S x => f S (.inl x :: r1)) else false)))
      | _ => false)
    | _ => false)
  | .invokespecial k => (match st with
    | v :: r => bif Nat.beq k 2000 && (match bRef S v with
      | some _ => true
      | none => false) then f S r else false
    | _ => false)
  | _ => false
theorem bSpc_ok {ι : List Value} {h : sHp} {ins : Instr} {S : bS} {st : List bV} {ws : List Value} {f : bS → List bV → Bool} (g : bSpc ins S st f = true) (q : bmS ι h S) (hs : bmT1 ι h st ws) : bPo ι h S f (sSpec ins ws) := by
  unfold bSpc at g
  split at g
  · rename_i k
    split at g
    · rename_i b r
      replace hs := bmT1_cons hs
      obtain ⟨w, s1, rfl, hx, hs⟩ := hs
      obtain ⟨y, rfl, hb⟩ := hx
      cases hk : Nat.beq k 1002 with
      | true =>
        rw [hk] at g
        have e := aBt hk
        subst e
        exact bPo_new g q hs (aFull_ok _) rfl
      | false =>
        rw [hk] at g
        dsimp only [cond] at g
        split at g
        · rename_i a r1
          replace hs := bmT1_cons hs
          obtain ⟨w, s, rfl, hx, hs⟩ := hs
          obtain ⟨x, rfl, ha⟩ := hx
          have h1 := bI_ok q ha
          have h2 := bI_ok q hb
          generalize bI S a = p1 at g h1
          generalize bI S b = p2 at g h2
          obtain ⟨xl, xh⟩ := p1
          obtain ⟨yl, yh⟩ := p2
          unfold aW at h1 h2
          dsimp only at g h1 h2
          cases hk0 : Nat.beq k 1000 with
          | true =>
            rw [hk0] at g
            have e := aBt hk0
            subst e
            refine bPo_new (z := if x < y then y else x) g q hs ?_ rfl
            unfold aW
            dsimp only
            split
            · rename_i z
              have := Int32.lt_iff_toInt_lt.mp z
              omega
            · rename_i z
              have : ¬ x.toInt < y.toInt := fun e => z (Int32.lt_iff_toInt_lt.mpr e)
              omega
          | false =>
            rw [hk0] at g
            dsimp only [cond] at g
            cases hk1 : Nat.beq k 1001 with
            | true =>
              rw [hk1] at g
              have e := aBt hk1
              subst e
              refine bPo_new (z := if y < x then y else x) g q hs ?_ rfl
              unfold aW
              dsimp only
              split
              · rename_i z
                have := Int32.lt_iff_toInt_lt.mp z
                omega
              · rename_i z
                have : ¬ y.toInt < x.toInt := fun e => z (Int32.lt_iff_toInt_lt.mpr e)
                omega
            | false => rw [hk1] at g; cases g
        · cases g
    · cases g
  · rename_i k
    split at g
    · rename_i v r
      replace hs := bmT1_cons hs
      obtain ⟨w, s1, rfl, hx, hs⟩ := hs
      replace g := b_bif g
      obtain ⟨g1, g⟩ := g
      replace g1 := aBa g1
      obtain ⟨g1, g2⟩ := g1
      have e := aBt g1
      subst e
      split at g2
      · rename_i K hr
        obtain ⟨p, rfl, -⟩ := bRef_ok hr q hx
        exact bPo_same g q rfl hs
      · cases g2
    · cases g
  · cases g
/-! arguments -/
def bPop : Nat → List bV → List bV → (List bV → List bV → Bool) → Bool
  | 0, st, acc, f => f acc st
  | n + 1, st, acc, f => (match st with
    | v :: r => bPop n r (v :: acc) f
    | [] => false)
theorem bPop_ok {ι : List Value} {h : sHp} : ∀ (n : Nat) (st acc : List bV) (ws aw : List Value) (f : List bV → List bV → Bool), bPop n st acc f = true → bmT1 ι h st ws → bmT1 ι h acc aw → ∃ as rest, f as rest = true ∧ n ≤ ws.length ∧ bmT1 ι h as ((ws.take n).reverse ++ aw) ∧ bmT1 ι h rest (ws.drop n) := by
  intro n
  induction n with
  | zero => intro st acc ws aw f g hs ha; exact ⟨acc, st, g, Nat.zero_le _, ha, hs⟩
  | succ n ih =>
    intro st acc ws aw f g hs ha
    cases st with
    | nil => cases g
    | cons v r =>
      replace hs := bmT1_cons hs
      obtain ⟨w, s, rfl, hv, hs⟩ := hs
      obtain ⟨as, rest, k1, k2, k3, k4⟩ := ih r (v :: acc) s (w :: aw) f g hs ⟨hv, ha⟩
      refine ⟨as, rest, k1, by rw [List.length_cons]; omega, ?_, k4⟩
      rw [List.take_succ_cons, List.reverse_cons, List.append_assoc]
      exact k3
def bCa : List bV → Nat
  | [] => 0
  | v :: r => (bif bJk v then 2 else 1) + bCa r
theorem bCa_ok {ι : List Value} {h : sHp} : ∀ {st : List bV} {ws : List Value}, bmT1 ι h st ws → (ws.map (fun v => v.category)).sum = bCa st := by
  intro st
  induction st with
  | nil =>
    intro ws hs
    rw [bmT1_nil hs]
    rfl
  | cons v r ih =>
    intro ws hs
    obtain ⟨w, s, rfl, hv, hs⟩ := bmT1_cons hs
    rw [List.map_cons, List.sum_cons, ih hs, bmV_cat hv]
    rfl
def bPad : Nat → (bLo → Bool) → Bool
  | 0, f => f []
  | n + 1, f => bPad n (fun L => f (none :: L))
theorem bPad_eq : ∀ (n : Nat) (f : bLo → Bool), bPad n f = f (List.replicate n none) := by
  intro n
  induction n with
  | zero => intro f; rfl
  | succ n ih => intro f; exact ih _
def bIni : List bV → Nat → (bLo → Bool) → Bool
  | [], n, f => bPad n f
  | v :: r, n, f => bif bJk v then (match n with
    | m + 2 => bIni r m (fun L => f (some v :: none :: L))
    | _ => false) else (match n with
    | m + 1 => bIni r m (fun L => f (some v :: L))
    | 0 => false)
theorem bmL_cons {ι : List Value} {h : sHp} {L : bLo} {vL : sLo} (q : bmL ι h L vL) {o : Option bV} {p : Option Value} (ho : ∀ v, o = some v → ∃ w, p = some w ∧ bmV ι h v w) : bmL ι h (o :: L) (p :: vL) := by
  refine ⟨by rw [List.length_cons, List.length_cons, q.1], fun i v hv => ?_⟩
  cases i with
  | zero =>
    rw [List.getElem?_cons_zero] at hv
    obtain ⟨w, e, h2⟩ := ho v (Option.some.inj hv)
    exact ⟨w, by rw [List.getElem?_cons_zero, e], h2⟩
  | succ i =>
    rw [List.getElem?_cons_succ] at hv ⊢
    exact q.2 i v hv
theorem bIni_ok {ι : List Value} {h : sHp} : ∀ (as : List bV) (ws : List Value) (n : Nat) (f : bLo → Bool), bIni as n f = true → bmT1 ι h as ws → ∃ L, f L = true ∧ (sIniA ws).length ≤ n ∧ bmL ι h L (sIniA ws ++ List.replicate (n - (sIniA ws).length) none) := by
  intro as
  induction as with
  | nil =>
    intro ws n f g hs
    have e := bmT1_nil hs
    subst e
    unfold bIni at g
    rw [bPad_eq] at g
    refine ⟨_, g, Nat.zero_le _, ?_⟩
    refine ⟨by simp [sIniA], fun i v hv => ?_⟩
    rw [List.getElem?_replicate] at hv
    split at hv <;> cases hv
  | cons v r ih =>
    intro ws n f g hs
    replace hs := bmT1_cons hs
    obtain ⟨w, s, rfl, hv, hs⟩ := hs
    unfold bIni at g
    have hc := bmV_cat hv
    cases hj : bJk v with
    | true =>
      rw [hj] at g hc
      dsimp only [cond] at g
      have hc : w.category = 2 := hc
      split at g
      · rename_i m
        obtain ⟨L, k1, k2, k3⟩ := ih s m _ g hs
        have e : sIniA (w :: s) = some w :: none :: sIniA s := by
          show (if w.category = 2 then _ else _) = _
          rw [if_pos hc]
        refine ⟨_, k1, by rw [e, List.length_cons, List.length_cons]; omega, ?_⟩
        rw [e, List.length_cons, List.length_cons, show m + 2 - ((sIniA s).length + 1 + 1) = m - (sIniA s).length by omega]
        exact bmL_cons (bmL_cons k3 (fun v' e' => by cases e')) (fun v' e' => by cases e'; exact ⟨w, rfl, hv⟩)
      · cases g
    | false =>
      rw [hj] at g hc
      dsimp only [cond] at g
      have hc : w.category = 1 := hc
      split at g
      · rename_i m
        obtain ⟨L, k1, k2, k3⟩ := ih s m _ g hs
        have e : sIniA (w :: s) = some w :: sIniA s := by
          show (if w.category = 2 then _ else _) = _
          rw [if_neg (by rw [hc]; decide)]
        refine ⟨_, k1, by rw [e, List.length_cons]; omega, ?_⟩
        rw [e, List.length_cons, show m + 1 - ((sIniA s).length + 1) = m - (sIniA s).length by omega]
        exact bmL_cons k3 (fun v' e' => by cases e'; exact ⟨w, rfl, hv⟩)
      · cases g
theorem bmT1_nd {ι : List Value} {h : sHp} : ∀ {st : List bV} {ws : List Value}, bmT1 ι h st ws → ws.all sNd = true := by
  intro st
  induction st with
  | nil => intro ws hs; rw [bmT1_nil hs]; rfl
  | cons v r ih =>
    intro ws hs
    obtain ⟨w, s, rfl, hv, hs⟩ := bmT1_cons hs
    rw [List.all_cons, bmV_nd hv, ih hs]; rfl
/-! whom a call calls -/
def bCutL : List Nat := [0, 1, 2, 4, 5, 9, 10]
def bCal (ins : Instr) (S : bS) (st : List bV) (f : Nat → List bV → List bV → Bool) : Bool := match ins with
  | .invokestatic k => bPop (sNA k) st [] (fun as rest => f k as rest)
  | .invokespecial k => bPop (sNA k) st [] (fun as rest => (match rest with
    | v :: r => (match bObj S v with
      | some _ => f k (v :: as) r
      | none => false)
    | _ => false))
  | .invokevirtual k => bif Nat.blt k 1000 then bPop (sNA k) st [] (fun as rest => (match rest with
    | v :: r => (match bObj S v with
      | some (K, ci, _) => bif Nat.beq ci (sOwn k) && Nat.blt K 113 then f k (v :: as) r else false
      | none => false)
    | _ => false)) else bPop (sVt k 100) st [] (fun as rest => (match rest with
    | v :: r => (match bObj S v with
      | some (K, ci, _) => bif Nat.beq K 113 then bCutL.all (fun ci => f (sVt k ci) (.inr (2, 100 + ci) :: as) r) else (bif bIsC K then f (sVt k ci) (v :: as) r else false)
      | none => false)
    | _ => false))
  | .invokeinterface k _ => bPop (k - 3000) st [] (fun as rest => (match rest with
    | v :: r => (match bRef S v with
      | some K => bif Nat.blt 399 K && Nat.blt K 407 then aF (k - 2700) (fun k1 => f k1 (v :: as) r) else false
      | none => false)
    | _ => false))
  | _ => false
theorem bIsC_ci {K ci : Nat} {tys : List bTy} (h : bIsC K = true) (hg : bGam K = some (.inr (ci, tys))) : K = 100 + ci ∧ ci ∈ bCutL ∧ sGrp ci = 2 ∧ ci < 11 := by
  rcases bIsC_cases h with e | e | e | e | e | e | e <;> subst e <;> cases hg <;> exact ⟨rfl, by decide, rfl, by decide⟩
theorem b_itf {K p : Nat} (h1 : 399 < K) (h2 : K < 407) (h : p = 2000000 + (K - 400)) : 2000000 ≤ p ∧ p < 2000007 := by omega
theorem bCal_ok {ι : List Value} {h : sHp} {ins : Instr} {S : bS} {st : List bV} {ws : List Value} {f : Nat → List bV → List bV → Bool} (g : bCal ins S st f = true) (hH : bH h) (q : bmS ι h S) (hs : bmT1 ι h st ws) : ∃ k1 as rest was wrest, sCal sNA sOwn sVt ins ws h = some (k1, was, wrest) ∧ f k1 as rest = true ∧ bmT1 ι h as was ∧ bmT1 ι h rest wrest := by
  unfold bCal at g
  split at g
  · rename_i k
    obtain ⟨as, rest, k1, k2, k3, k4⟩ := bPop_ok _ _ _ _ [] _ g hs trivial
    rw [List.append_nil] at k3
    refine ⟨k, as, rest, _, _, ?_, k1, k3, k4⟩
    show (sPop (sNA k) ws).map _ = _
    unfold sPop
    rw [if_pos k2]; rfl
  · rename_i k
    obtain ⟨as, rest, k1, k2, k3, k4⟩ := bPop_ok _ _ _ _ [] _ g hs trivial
    rw [List.append_nil] at k3
    have e0 : sPop (sNA k) ws = some ((ws.take (sNA k)).reverse, ws.drop (sNA k)) := by
      unfold sPop
      rw [if_pos k2]
    generalize (ws.take (sNA k)).reverse = was at e0 k3
    generalize ws.drop (sNA k) = wr at e0 k4
    split at k1
    · rename_i v r
      replace k4 := bmT1_cons k4
      obtain ⟨w, s, rfl, hv, k4⟩ := k4
      split at k1
      · rename_i z hz
        obtain ⟨K, ci0, tys⟩ := z
        obtain ⟨p, ci, fs, rfl, h1, -⟩ := bObj_ok hz hH q hv
        refine ⟨k, _, _, .ref p :: was, s, ?_, k1, ⟨hv, k3⟩, k4⟩
        show (sPop (sNA k) ws).bind _ = _
        rw [e0, Option.bind_some]
        dsimp only
        rw [h1]
      · cases k1
    · cases k1
  · rename_i k
    cases hk : Nat.blt k 1000 with
    | true =>
      rw [hk] at g
      replace hk := aBl hk
      obtain ⟨as, rest, k1, k2, k3, k4⟩ := bPop_ok _ _ _ _ [] _ g hs trivial
      rw [List.append_nil] at k3
      have e0 : sPop (sNA k) ws = some ((ws.take (sNA k)).reverse, ws.drop (sNA k)) := by
        unfold sPop
        rw [if_pos k2]
      generalize (ws.take (sNA k)).reverse = was at e0 k3
      generalize ws.drop (sNA k) = wr at e0 k4
      split at k1
      · rename_i v r
        replace k4 := bmT1_cons k4
        obtain ⟨w, s, rfl, hv, k4⟩ := k4
        split at k1
        · rename_i K ci0 tys hz
          obtain ⟨p, ci, fs, rfl, h1, h2, h3, -⟩ := bObj_ok hz hH q hv
          replace k1 := b_bif k1
          obtain ⟨k5, k1⟩ := k1
          replace k5 := aBa k5
          obtain ⟨k5, k6⟩ := k5
          replace k6 := aBl k6
          have e1 := h3 (by omega)
          subst e1
          refine ⟨k, _, _, .ref p :: was, s, ?_, k1, ⟨hv, k3⟩, k4⟩
          show (if k < 1000 then (sPop (sNA k) ws).bind _ else _) = _
          rw [if_pos hk, e0, Option.bind_some]
          dsimp only
          rw [h1]
          dsimp only
          rw [if_pos (aBt k5)]
        · cases k1
      · cases k1
    | false =>
      rw [hk] at g
      have hk : ¬ k < 1000 := fun z => by
        rw [show Nat.blt k 1000 = true from Nat.ble_eq_true_of_le z] at hk
        cases hk
      obtain ⟨as, rest, k1, k2, k3, k4⟩ := bPop_ok _ _ _ _ [] _ g hs trivial
      rw [List.append_nil] at k3
      have e0 : sPop (sVt k 100) ws = some ((ws.take (sVt k 100)).reverse, ws.drop (sVt k 100)) := by
        unfold sPop
        rw [if_pos k2]
      generalize (ws.take (sVt k 100)).reverse = was at e0 k3
      generalize ws.drop (sVt k 100) = wr at e0 k4
      split at k1
      · rename_i v r
        replace k4 := bmT1_cons k4
        obtain ⟨w, s, rfl, hv, k4⟩ := k4
        split at k1
        · rename_i K ci0 tys hz
          obtain ⟨p, ci, fs, rfl, h1, h2, h3, -, -, h7, h8⟩ := bObj_ok hz hH q hv
          have fin : ∀ (hc : sGrp ci = 2 ∧ ci < 11), sCal sNA sOwn sVt (.invokevirtual k) ws h = some (sVt k ci, .ref p :: was, s) := by
            intro hc
            show (if k < 1000 then _ else (sPop (sVt k 100) ws).bind _) = _
            rw [if_neg hk, e0, Option.bind_some]
            dsimp only
            rw [h1]
            dsimp only
            rw [if_pos hc]
          cases hK : Nat.beq K 113 with
          | true =>
            rw [hK] at k1
            have e := aBt hK
            subst e
            dsimp only [cond] at k1
            rcases bKK_cases h8 with e | ⟨-, e⟩
            · rw [e] at h7
              have : bGam 113 = none := rfl
              rw [this] at h7
              cases h7
            · obtain ⟨c1, c2, c3, c4⟩ := bIsC_ci e h7
              refine ⟨sVt k ci, _, _, _, _, fin ⟨c3, c4⟩, List.all_eq_true.mp k1 ci c2, ⟨⟨p, rfl, Or.inl ⟨_, h1, ?_⟩⟩, k3⟩, k4⟩
              unfold bKK
              rw [c1, aBq, decide_eq_true rfl]; rfl
          | false =>
            rw [hK] at k1
            dsimp only [cond] at k1
            have hK : K ≠ 113 := by
              rw [aBq] at hK
              exact of_decide_eq_false hK
            replace k1 := b_bif k1
            obtain ⟨k5, k1⟩ := k1
            have e1 := h3 hK
            subst e1
            have h9 : bKp p (.inr (ci, fs)) = K := by
              rcases bKK_cases h8 with e | ⟨e, -⟩
              · exact e
              · exact absurd e hK
            rw [h9] at h7
            obtain ⟨c1, c2, c3, c4⟩ := bIsC_ci k5 h7
            exact ⟨sVt k ci, _, _, _, _, fin ⟨c3, c4⟩, k1, ⟨hv, k3⟩, k4⟩
        · cases k1
      · cases k1
  · rename_i k cnt
    obtain ⟨as, rest, k1, k2, k3, k4⟩ := bPop_ok _ _ _ _ [] _ g hs trivial
    rw [List.append_nil] at k3
    have e0 : sPop (k - 3000) ws = some ((ws.take (k - 3000)).reverse, ws.drop (k - 3000)) := by
      unfold sPop
      rw [if_pos k2]
    generalize (ws.take (k - 3000)).reverse = was at e0 k3
    generalize ws.drop (k - 3000) = wr at e0 k4
    split at k1
    · rename_i v r
      replace k4 := bmT1_cons k4
      obtain ⟨w, s, rfl, hv, k4⟩ := k4
      split at k1
      · rename_i K hK
        obtain ⟨p, rfl, hp⟩ := bRef_ok hK q hv
        obtain ⟨k5, k1⟩ := b_bif k1
        obtain ⟨k5, k6⟩ := aBa k5
        have k5 := aBl k5
        have k6 := aBl k6
        rw [aF_eq] at k1
        have hpp : p = 2000000 + (K - 400) := by
          rcases hp with ⟨c, h1, h2⟩ | ⟨e, -⟩ | ⟨-, e⟩
          · obtain ⟨ct, h3, h4⟩ := hH.2.1 p c h1
            rcases bKK_cases h2 with e | ⟨e, -⟩
            · rw [e] at h3
              have := bGam_lt h3
              omega
            · omega
          · omega
          · exact e
        refine ⟨k - 2700, _, _, .ref p :: was, s, ?_, k1, ⟨hv, k3⟩, k4⟩
        unfold sCal
        dsimp only
        rw [e0, Option.bind_some]
        dsimp only
        exact if_pos (b_itf k5 k6 hpp)
      · cases k1
    · cases k1
  · cases g
end
