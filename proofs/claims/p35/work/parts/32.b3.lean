/-! ===== the second executor: numbers, locals ===== -/
abbrev bLo : Type := List (Option bV)
def bJk (v : bV) : Bool := match v with
  | .inr (t, _) => Nat.beq t 0
  | _ => false
theorem bJk_ok {ι : List Value} {h : sHp} {v : bV} {w : Value} (g : bJk v = true) (q : bmV ι h v w) : ∃ x, w = .long x := by
  rcases v with a | ⟨t, K⟩
  · cases g
  · have e : t = 0 := aBt g
    subst e
    exact q
theorem bmV_cat {ι : List Value} {h : sHp} {v : bV} {w : Value} (q : bmV ι h v w) : w.category = bif bJk v then 2 else 1 := by
  rcases v with a | ⟨t, K⟩
  · obtain ⟨x, rfl, -⟩ := q
    rfl
  · match t, q with
    | 0, q =>
      obtain ⟨x, rfl⟩ := q
      rfl
    | 1, q =>
      have e : w = .null := q
      subst e
      rfl
    | 2, q =>
      obtain ⟨p, rfl, -⟩ := q
      rfl
    | k + 3, q =>
      obtain ⟨-, rfl | ⟨p, rfl, -⟩⟩ := q <;> rfl
theorem bmV_nd {ι : List Value} {h : sHp} {v : bV} {w : Value} (q : bmV ι h v w) : sNd w = true := by
  rcases v with a | ⟨t, K⟩
  · obtain ⟨x, rfl, -⟩ := q
    rfl
  · match t, q with
    | 0, q =>
      obtain ⟨x, rfl⟩ := q
      rfl
    | 1, q =>
      have e : w = .null := q
      subst e
      rfl
    | 2, q =>
      obtain ⟨p, rfl, -⟩ := q
      rfl
    | k + 3, q =>
      obtain ⟨-, rfl | ⟨p, rfl, -⟩⟩ := q <;> rfl
def bmT1 (ι : List Value) (h : sHp) : List bV → List Value → Prop
  | [], [] => True
  | v :: r, w :: s => bmV ι h v w ∧ bmT1 ι h r s
  | _, _ => False
theorem bmT1_mono {ι ι' : List Value} {h h' : sHp} (a : bLe ι ι') (b : bEx h h') : ∀ {st : List bV} {ws : List Value}, bmT1 ι h st ws → bmT1 ι' h' st ws := by
  intro st
  induction st with
  | nil =>
    intro ws q
    cases ws with
    | nil => trivial
    | cons w s => exact q.elim
  | cons v r ih =>
    intro ws q
    cases ws with
    | nil => exact q.elim
    | cons w s => exact ⟨bmV_mono a b q.1, ih q.2⟩
theorem bmT1_cons {ι : List Value} {h : sHp} {v : bV} {r : List bV} {ws : List Value} (q : bmT1 ι h (v :: r) ws) : ∃ w s, ws = w :: s ∧ bmV ι h v w ∧ bmT1 ι h r s := by
  cases ws with
  | nil => exact q.elim
  | cons w s => exact ⟨w, s, rfl, q.1, q.2⟩
theorem bmT1_nil {ι : List Value} {h : sHp} {ws : List Value} (q : bmT1 ι h [] ws) : ws = [] := by
  cases ws with
  | nil => rfl
  | cons w s => exact q.elim
def bmL (ι : List Value) (h : sHp) (L : bLo) (vL : sLo) : Prop := L.length = vL.length ∧ ∀ (i : Nat) (v : bV), L[i]? = some (some v) → ∃ w : Value, vL[i]? = some (some w) ∧ bmV ι h v w
theorem bmL_mono {ι ι' : List Value} {h h' : sHp} (a : bLe ι ι') (b : bEx h h') {L : bLo} {vL : sLo} (q : bmL ι h L vL) : bmL ι' h' L vL := ⟨q.1, fun i v hv => by
  obtain ⟨w, h1, h2⟩ := q.2 i v hv
  exact ⟨w, h1, bmV_mono a b h2⟩⟩
/-! binary operations on ints -/
def bNz (q : Int × Int) : Bool := decide (0 < q.1) || decide (q.2 < 0)
def bIo (ins : Instr) (p q : Int × Int) : Option (Int × Int) := match ins with
  | .iadd => some (aRg (p.1 + q.1, p.2 + q.2))
  | .isub => some (aRg (p.1 - q.2, p.2 - q.1))
  | .imul => some (aMl p q)
  | .iand => some (if 0 ≤ q.1 then (0, q.2) else if 0 ≤ p.1 then (0, p.2) else aFull)
  | .ior => some aFull
  | .ixor => some aFull
  | .ishl => some aFull
  | .ishr => some aFull
  | .idiv => bif bNz q then some (if q.1 = q.2 then aDv p q.1 else aFull) else none
  | .irem => bif bNz q then some (if 0 < q.1 then (if 0 ≤ p.1 then (0, q.2 - 1) else (1 - q.2, q.2 - 1)) else aFull) else none
  | _ => none
theorem bIo_ok {ins : Instr} {p q r : Int × Int} (g : bIo ins p q = some r) {x y : Int32} (hx : aW x.toInt p) (hy : aW y.toInt q) : ∃ z, (∀ st, sPure ins (.int y :: .int x :: st) = some (.int z :: st)) ∧ aW z.toInt r := by
  unfold bIo at g
  split at g
  · cases g
    refine ⟨x + y, fun _ => rfl, aRg_ok (Int32.toInt_add _ _) ?_⟩
    unfold aW at hx hy ⊢
    dsimp only
    omega
  · cases g
    refine ⟨x - y, fun _ => rfl, aRg_ok (Int32.toInt_sub _ _) ?_⟩
    unfold aW at hx hy ⊢
    dsimp only
    omega
  · cases g
    exact ⟨x * y, fun _ => rfl, aMl_ok (Int32.toInt_mul _ _) hx hy⟩
  · cases g
    refine ⟨x &&& y, fun _ => rfl, ?_⟩
    have a1 := aAn_ok x y
    have a2 := aAn_ok y x
    rw [Int32.and_comm y x] at a2
    unfold aW at hx hy
    split
    · unfold aAn at a1
      rw [if_pos (by omega)] at a1
      unfold aW at a1 ⊢
      dsimp only at a1 ⊢
      omega
    · split
      · unfold aAn at a2
        rw [if_pos (by omega)] at a2
        unfold aW at a2 ⊢
        dsimp only at a2 ⊢
        omega
      · exact aFull_ok _
  · cases g; exact ⟨x ||| y, fun _ => rfl, aFull_ok _⟩
  · cases g; exact ⟨x ^^^ y, fun _ => rfl, aFull_ok _⟩
  · cases g; exact ⟨x <<< (y &&& 31), fun _ => rfl, aFull_ok _⟩
  · cases g; exact ⟨x >>> (y &&& 31), fun _ => rfl, aFull_ok _⟩
  · obtain ⟨b, g⟩ := aBf g
    cases g
    have hy0 : ¬ y = 0 := by
      intro z
      unfold bNz at b
      rw [Bool.or_eq_true, decide_eq_true_eq, decide_eq_true_eq] at b
      unfold aW at hy
      rw [z] at hy
      have e0 : (0 : Int32).toInt = 0 := rfl
      omega
    refine ⟨x / y, fun st => ?_, ?_⟩
    · show s2i (fun x y => if y = 0 then none else some (.int (x / y))) (.int y :: .int x :: st) = _
      unfold s2i
      dsimp only
      rw [if_neg hy0]
      rfl
    · split
      · rename_i e
        unfold aW at hy
        have e2 : y.toInt = q.1 := by omega
        rw [← e2]
        exact aDv_ok hx
      · exact aFull_ok _
  · obtain ⟨b, g⟩ := aBf g
    cases g
    have hy0 : ¬ y = 0 := by
      intro z
      unfold bNz at b
      rw [Bool.or_eq_true, decide_eq_true_eq, decide_eq_true_eq] at b
      unfold aW at hy
      rw [z] at hy
      have e0 : (0 : Int32).toInt = 0 := rfl
      omega
    refine ⟨x - x / y * y, fun st => ?_, ?_⟩
    · show s2i (fun x y => if y = 0 then none else some (.int (x - x / y * y))) (.int y :: .int x :: st) = _
      unfold s2i
      dsimp only
      rw [if_neg hy0]
      rfl
    · split
      · rename_i e
        unfold aW at hx hy
        have hp : 0 < y.toInt := by omega
        rw [a_rem hp]
        have h1 := Int.tmod_lt_of_pos x.toInt hp
        have h7 := Int.tmod_lt_of_pos (-x.toInt) hp
        rw [Int.neg_tmod] at h7
        split
        · have h2 := Int.tmod_nonneg y.toInt (a := x.toInt) (by omega)
          unfold aW
          dsimp only
          omega
        · unfold aW
          dsimp only
          omega
      · exact aFull_ok _
  · cases g
/-- a number and a known one -/
def bAdd (S : bS) (a : bN) (c : Int) (f : bS → bN → Bool) : Bool := match bI S a with
  | (x, y) => bif decide (-2147483648 ≤ x + c) && decide (y + c ≤ 2147483647) then bNew (x + c) (y + c) S (fun S1 b => match a with
    | .inr _ => f S1 b
    | .inl j => (match b with
      | .inr _ => f S1 b
      | .inl i => (match S1 with
        | (n, g, G, D, r) => f (n, g, G, (i, j, c) :: D, r) b))) else bNew (-2147483648) 2147483647 S f
theorem bAdd_ok {ι : List Value} {h : sHp} {S : bS} {a : bN} {c : Int} {f : bS → bN → Bool} (g : bAdd S a c f = true) (q : bmS ι h S) {x z : Int32} (hx : bmI ι a x) (hz : z.toInt = (x.toInt + c).bmod (2 ^ 32)) : ∃ ι' S' b, f S' b = true ∧ bLe ι ι' ∧ bmS ι' h S' ∧ bmI ι' b z ∧ S'.2.1 = S.2.1 := by
  have h0 := bI_ok q hx
  unfold bAdd at g
  generalize bI S a = p at g h0
  obtain ⟨lo, hi⟩ := p
  unfold aW at h0
  dsimp only at g h0
  cases hb : (decide (-2147483648 ≤ lo + c) && decide (hi + c ≤ 2147483647)) with
  | false =>
    rw [hb] at g
    exact bNew_ok g q (aFull_ok z)
  | true =>
    rw [hb] at g
    dsimp only [cond] at g
    obtain ⟨b1, b2⟩ := aBa hb
    have b1 := of_decide_eq_true b1
    have b2 := of_decide_eq_true b2
    have e : z.toInt = x.toInt + c := by
      rw [hz]
      exact Int.bmod_eq_of_le (by omega) (by omega)
    obtain ⟨ι', S', b, g1, g2, g3, g4, g5⟩ := bNew_ok g q (x := z) (by unfold aW; dsimp only; omega)
    cases a with
    | inr _ => exact ⟨ι', S', b, g1, g2, g3, g4, g5⟩
    | inl j =>
      cases b with
      | inr _ => exact ⟨ι', S', _, g1, g2, g3, g4, g5⟩
      | inl i =>
        obtain ⟨n, g0, G, D, r⟩ := S'
        refine ⟨ι', _, .inl i, g1, g2, ⟨g3.1, g3.2.1, ?_, g3.2.2.2⟩, g4, g5⟩
        intro e' he
        have he : e' ∈ (i, j, c) :: D := he
        rcases List.mem_cons.mp he with rfl | he
        · exact ⟨z, x, g4, bLe_at g2 hx, e⟩
        · exact g3.2.2.1 e' he
def bCi (n : Int) (S : bS) (st : List bV) (f : bS → List bV → Bool) : Bool := aFc n fun n => f S (.inl (.inr n) :: st)
def bPure (ins : Instr) (S : bS) (st : List bV) (f : bS → List bV → Bool) : Bool := match ins with
  | .iconst n => bif decide (-1 ≤ n) && decide (n ≤ 5) then bCi n S st f else false
  | .bipush n => bif decide (-128 ≤ n) && decide (n ≤ 127) then bCi n S st f else false
  | .sipush n => bif decide (-32768 ≤ n) && decide (n ≤ 32767) then bCi n S st f else false
  | .lconst _ => f S (.inr (0, 0) :: st)
  | .aconst_null => f S (.inr (1, 0) :: st)
  | .lcmp => (match st with
    | a :: b :: r => bif bJk a && bJk b then bNew (-1) 1 S (fun S x => f S (.inl x :: r)) else false
    | _ => false)
  | .i2l => (match st with
    | .inl _ :: r => f S (.inr (0, 0) :: r)
    | _ => false)
  | .l2i => (match st with
    | a :: r => bif bJk a then bNew (-2147483648) 2147483647 S (fun S x => f S (.inl x :: r)) else false
    | _ => false)
  | .i2b => (match st with
    | .inl _ :: r => bNew (-2147483648) 2147483647 S (fun S x => f S (.inl x :: r))
    | _ => false)
  | .i2s => (match st with
    | .inl _ :: r => bNew (-2147483648) 2147483647 S (fun S x => f S (.inl x :: r))
    | _ => false)
  | .ineg => (match st with
    | .inl a :: r => (match bI S a with
      | (x, y) => (match aRg (-y, -x) with
        | (u, v) => bNew u v S (fun S x => f S (.inl x :: r))))
    | _ => false)
  | .lneg => (match st with
    | a :: r => bif bJk a then f S (.inr (0, 0) :: r) else false
    | _ => false)
  | .ladd => (match st with
    | a :: b :: r => bif bJk a && bJk b then f S (.inr (0, 0) :: r) else false
    | _ => false)
  | .lsub => (match st with
    | a :: b :: r => bif bJk a && bJk b then f S (.inr (0, 0) :: r) else false
    | _ => false)
  | .land => (match st with
    | a :: b :: r => bif bJk a && bJk b then f S (.inr (0, 0) :: r) else false
    | _ => false)
  | .lor => (match st with
    | a :: b :: r => bif bJk a && bJk b then f S (.inr (0, 0) :: r) else false
    | _ => false)
  | .lxor => (match st with
    | a :: b :: r => bif bJk a && bJk b then f S (.inr (0, 0) :: r) else false
    | _ => false)
  | .lshl => (match st with
    | .inl _ :: b :: r => bif bJk b then f S (.inr (0, 0) :: r) else false
    | _ => false)
  | .lshr => (match st with
    | .inl _ :: b :: r => bif bJk b then f S (.inr (0, 0) :: r) else false
    | _ => false)
  | .lushr => (match st with
    | .inl _ :: b :: r => bif bJk b then f S (.inr (0, 0) :: r) else false
    | _ => false)
  | .dup => (match st with
    | a :: r => bif bJk a then false else f S (a :: a :: r)
    | _ => false)
  | .dup_x1 => (match st with
    | a :: b :: r => bif bJk a || bJk b then false else f S (a :: b :: a :: r)
    | _ => false)
  | .dup2 => (match st with
    | a :: b :: r => bif bJk a || bJk b then false else f S (a :: b :: a :: b :: r)
    | _ => false)
  | .pop => (match st with
    | a :: r => bif bJk a then false else f S r
    | _ => false)
  | .pop2 => (match st with
    | a :: r => bif bJk a then f S r else false
    | _ => false)
  | .iadd => (match st with
    | .inl (.inr c) :: .inl a :: r => bAdd S a c (fun S x => f S (.inl x :: r))
    | .inl b :: .inl a :: r => (match bIo .iadd (bI S a) (bI S b) with
      | some (u, v) => bNew u v S (fun S x => f S (.inl x :: r))
      | none => false)
    | _ => false)
  | ins => (match st with
    | .inl b :: .inl a :: r => (match bIo ins (bI S a) (bI S b) with
      | some (u, v) => bNew u v S (fun S x => f S (.inl x :: r))
      | none => false)
    | _ => false)
/-- what a step of the values alone gives -/
def bPo (ι : List Value) (h : sHp) (S : bS) (f : bS → List bV → Bool) (o : Option (List Value)) : Prop := ∃ ι' S' st' ws', o = some ws' ∧ f S' st' = true ∧ bLe ι ι' ∧ bmS ι' h S' ∧ bmT1 ι' h st' ws' ∧ S'.2.1 = S.2.1
theorem bPo_new {ι : List Value} {h : sHp} {S : bS} {u v : Int} {r : List bV} {rs : List Value} {f : bS → List bV → Bool} {o : Option (List Value)} (g : bNew u v S (fun S x => f S (.inl x :: r)) = true) (q : bmS ι h S) (hr : bmT1 ι h r rs) {z : Int32} (hz : aW z.toInt (u, v)) (ho : o = some (.int z :: rs)) : bPo ι h S f o := by
  obtain ⟨ι', S', a, g1, g2, g3, g4, g5⟩ := bNew_ok g q hz
  exact ⟨ι', S', _, _, ho, g1, g2, g3, ⟨⟨z, rfl, g4⟩, bmT1_mono g2 (bEx_refl h) hr⟩, g5⟩
theorem bPo_same {ι : List Value} {h : sHp} {S : bS} {st' : List bV} {ws' : List Value} {f : bS → List bV → Bool} {o : Option (List Value)} (g : f S st' = true) (q : bmS ι h S) (ho : o = some ws') (hr : bmT1 ι h st' ws') : bPo ι h S f o := ⟨ι, S, st', ws', ho, g, bLe_refl ι, q, hr, rfl⟩
theorem b_iconst {n : Int} (h1 : -2147483648 ≤ n) (h2 : n ≤ 2147483647) : (Int32.ofInt n).toInt = n := by
  exact Int32.toInt_ofInt_of_le (by omega) (by omega)
theorem b_two {st : List bV} {P : Prop} {c : bV → bV → Bool} {f : List bV → Bool} {ws : List Value} {ι : List Value} {h : sHp} (g : (match st with
    | a :: b :: r => bif c a b then f (.inr (0, 0) :: r) else false
    | _ => false) = true) (hs : bmT1 ι h st ws) (k : ∀ a b r x y s, st = a :: b :: r → ws = x :: y :: s → c a b = true → f (.inr (0, 0) :: r) = true → bmV ι h a x → bmV ι h b y → bmT1 ι h r s → P) : P := by
  split at g
  · rename_i a b r
    replace hs := bmT1_cons hs
    obtain ⟨x, s1, rfl, hx, hs⟩ := hs
    replace hs := bmT1_cons hs
    obtain ⟨y, s, rfl, hy, hs⟩ := hs
    cases hc : c a b with
    | true => rw [hc] at g; exact k a b r x y s rfl rfl hc g hx hy hs
    | false => rw [hc] at g; cases g
  · cases g
theorem bPo_int {ι : List Value} {h : sHp} {S : bS} {st : List bV} {ws : List Value} {n : Int} {f : bS → List bV → Bool} {o : Option (List Value)} (g : bCi n S st f = true) (q : bmS ι h S) (hs : bmT1 ι h st ws) {z : Int32} (hz : z.toInt = n) (ho : o = some (.int z :: ws)) : bPo ι h S f o := by
  unfold bCi at g
  rw [aFc_eq] at g
  exact bPo_same g q ho ⟨⟨z, rfl, hz⟩, hs⟩
theorem b_bif {c : Bool} {a : Bool} (h : (bif c then a else false) = true) : c = true ∧ a = true := by
  cases c with
  | true => exact ⟨rfl, h⟩
  | false => cases h
theorem b_bifn {c : Bool} {a : Bool} (h : (bif c then false else a) = true) : c = false ∧ a = true := by
  cases c with
  | false => exact ⟨rfl, h⟩
  | true => cases h
theorem b_cat1 {ι : List Value} {h : sHp} {v : bV} {w : Value} (q : bmV ι h v w) (g : bJk v = false) : w.category = 1 := by rw [bmV_cat q, g]; rfl
theorem b_orf {a b : Bool} (h : (a || b) = false) : a = false ∧ b = false := by cases a <;> cases b <;> first | exact ⟨rfl, rfl⟩ | cases h
theorem bPure_jj {ι : List Value} {h : sHp} {S : bS} {st : List bV} {ws : List Value} {f : bS → List bV → Bool} {ins : Instr} {F : Int64 → Int64 → Int64} (g : (match st with
    | a :: b :: r => bif bJk a && bJk b then f S (.inr (0, 0) :: r) else false
    | _ => false) = true) (q : bmS ι h S) (hs : bmT1 ι h st ws) (hF : ∀ x y s, sPure ins (.long y :: .long x :: s) = some (.long (F x y) :: s)) : bPo ι h S f (sPure ins ws) := by
  split at g
  · rename_i a b r
    obtain ⟨g1, g⟩ := b_bif g
    obtain ⟨g1, g2⟩ := aBa g1
    replace hs := bmT1_cons hs
    obtain ⟨w, s1, rfl, hx, hs⟩ := hs
    replace hs := bmT1_cons hs
    obtain ⟨v, s, rfl, hy, hs⟩ := hs
    obtain ⟨y, rfl⟩ := bJk_ok g1 hx
    obtain ⟨x, rfl⟩ := bJk_ok g2 hy
    exact bPo_same g q (hF x y s) ⟨⟨_, rfl⟩, hs⟩
  · cases g
theorem bPure_ij {ι : List Value} {h : sHp} {S : bS} {st : List bV} {ws : List Value} {f : bS → List bV → Bool} {ins : Instr} {F : Int64 → Int32 → Int64} (g : (match st with
    | .inl _ :: b :: r => bif bJk b then f S (.inr (0, 0) :: r) else false
    | _ => false) = true) (q : bmS ι h S) (hs : bmT1 ι h st ws) (hF : ∀ x y s, sPure ins (.int y :: .long x :: s) = some (.long (F x y) :: s)) : bPo ι h S f (sPure ins ws) := by
  split at g
  · rename_i a b r
    obtain ⟨g1, g⟩ := b_bif g
    replace hs := bmT1_cons hs
    obtain ⟨w, s1, rfl, hx, hs⟩ := hs
    replace hs := bmT1_cons hs
    obtain ⟨v, s, rfl, hy, hs⟩ := hs
    obtain ⟨y, rfl, -⟩ := hx
    obtain ⟨x, rfl⟩ := bJk_ok g1 hy
    exact bPo_same g q (hF x y s) ⟨⟨_, rfl⟩, hs⟩
  · cases g
theorem bPure_i {ι : List Value} {h : sHp} {S : bS} {st : List bV} {ws : List Value} {f : bS → List bV → Bool} {ins : Instr} {F : Int32 → Int32} (g : (match st with
    | .inl _ :: r => bNew (-2147483648) 2147483647 S (fun S x => f S (.inl x :: r))
    | _ => false) = true) (q : bmS ι h S) (hs : bmT1 ι h st ws) (hF : ∀ x s, sPure ins (.int x :: s) = some (.int (F x) :: s)) : bPo ι h S f (sPure ins ws) := by
  split at g
  · rename_i a r
    replace hs := bmT1_cons hs
    obtain ⟨w, s1, rfl, hx, hs⟩ := hs
    obtain ⟨x, rfl, -⟩ := hx
    exact bPo_new g q hs (aFull_ok (F x)) (hF x s1)
  · cases g
theorem bPure_2 {ι : List Value} {h : sHp} {S : bS} {a b : bN} {r : List bV} {ws : List Value} {f : bS → List bV → Bool} {ins : Instr} (g : (match bIo ins (bI S a) (bI S b) with
      | some (u, v) => bNew u v S (fun S x => f S (.inl x :: r))
      | none => false) = true) (q : bmS ι h S) (hs : bmT1 ι h (.inl b :: .inl a :: r) ws) : bPo ι h S f (sPure ins ws) := by
  replace hs := bmT1_cons hs
  obtain ⟨w, s1, rfl, hx, hs⟩ := hs
  replace hs := bmT1_cons hs
  obtain ⟨v, s, rfl, hy, hs⟩ := hs
  obtain ⟨y, rfl, hb⟩ := hx
  obtain ⟨x, rfl, ha⟩ := hy
  split at g
  · rename_i u v hi
    obtain ⟨z, hz, hw⟩ := bIo_ok hi (bI_ok q ha) (bI_ok q hb)
    exact bPo_new g q hs hw (hz s)
  · cases g
theorem bPure_ok {ι : List Value} {h : sHp} {ins : Instr} {S : bS} {st : List bV} {ws : List Value} {f : bS → List bV → Bool} (g : bPure ins S st f = true) (q : bmS ι h S) (hs : bmT1 ι h st ws) : bPo ι h S f (sPure ins ws) := by
  unfold bPure at g
  split at g
  · rename_i n
    obtain ⟨g1, g⟩ := b_bif g
    obtain ⟨g1, g2⟩ := aBa g1
    have g1 := of_decide_eq_true g1
    have g2 := of_decide_eq_true g2
    exact bPo_int g q hs (z := Int32.ofInt n) (Int32.toInt_ofInt_of_le (by omega) (by omega)) rfl
  · rename_i n
    obtain ⟨g1, g⟩ := b_bif g
    obtain ⟨g1, g2⟩ := aBa g1
    have g1 := of_decide_eq_true g1
    have g2 := of_decide_eq_true g2
    exact bPo_int g q hs (z := (Int8.ofInt n).toInt32) (by rw [Int8.toInt_toInt32]; exact Int8.toInt_ofInt_of_le (by omega) (by omega)) rfl
  · rename_i n
    obtain ⟨g1, g⟩ := b_bif g
    obtain ⟨g1, g2⟩ := aBa g1
    have g1 := of_decide_eq_true g1
    have g2 := of_decide_eq_true g2
    exact bPo_int g q hs (z := (Int16.ofInt n).toInt32) (by rw [Int16.toInt_toInt32]; exact Int16.toInt_ofInt_of_le (by omega) (by omega)) rfl
  · exact bPo_same g q rfl ⟨⟨_, rfl⟩, hs⟩
  · exact bPo_same g q rfl ⟨rfl, hs⟩
  · split at g
    · rename_i a b r
      obtain ⟨g1, g⟩ := b_bif g
      obtain ⟨g1, g2⟩ := aBa g1
      replace hs := bmT1_cons hs
      obtain ⟨w, s1, rfl, hx, hs⟩ := hs
      replace hs := bmT1_cons hs
      obtain ⟨v, s, rfl, hy, hs⟩ := hs
      obtain ⟨y, rfl⟩ := bJk_ok g1 hx
      obtain ⟨x, rfl⟩ := bJk_ok g2 hy
      exact bPo_new g q hs (aCm_ok x y) rfl
    · cases g
  · split at g
    · rename_i a r
      replace hs := bmT1_cons hs
      obtain ⟨w, s1, rfl, hx, hs⟩ := hs
      obtain ⟨x, rfl, -⟩ := hx
      exact bPo_same g q rfl ⟨⟨_, rfl⟩, hs⟩
    · cases g
  · split at g
    · rename_i a r
      obtain ⟨g1, g⟩ := b_bif g
      replace hs := bmT1_cons hs
      obtain ⟨w, s1, rfl, hx, hs⟩ := hs
      obtain ⟨x, rfl⟩ := bJk_ok g1 hx
      exact bPo_new g q hs (aFull_ok _) rfl
    · cases g
  · exact bPure_i (F := fun x => x.toInt8.toInt32) g q hs (fun _ _ => rfl)
  · exact bPure_i (F := fun x => x.toInt16.toInt32) g q hs (fun _ _ => rfl)
  · split at g
    · rename_i a r
      replace hs := bmT1_cons hs
      obtain ⟨w, s1, rfl, hx, hs⟩ := hs
      obtain ⟨x, rfl, hx⟩ := hx
      have h0 := bI_ok q hx
      generalize bI S a = p at g h0
      obtain ⟨lo, hi⟩ := p
      dsimp only at g
      have h1 : aW (-x).toInt (aRg (-hi, -lo)) := aRg_ok (Int32.toInt_neg x) (by unfold aW at h0 ⊢; dsimp only at h0 ⊢; omega)
      generalize aRg (-hi, -lo) = p at g h1
      obtain ⟨u, v⟩ := p
      exact bPo_new g q hs h1 rfl
    · cases g
  · split at g
    · rename_i a r
      obtain ⟨g1, g⟩ := b_bif g
      replace hs := bmT1_cons hs
      obtain ⟨w, s1, rfl, hx, hs⟩ := hs
      obtain ⟨x, rfl⟩ := bJk_ok g1 hx
      exact bPo_same g q rfl ⟨⟨_, rfl⟩, hs⟩
    · cases g
  · exact bPure_jj (F := fun x y => x + y) g q hs (fun _ _ _ => rfl)
  · exact bPure_jj (F := fun x y => x - y) g q hs (fun _ _ _ => rfl)
  · exact bPure_jj (F := fun x y => x &&& y) g q hs (fun _ _ _ => rfl)
  · exact bPure_jj (F := fun x y => x ||| y) g q hs (fun _ _ _ => rfl)
  · exact bPure_jj (F := fun x y => x ^^^ y) g q hs (fun _ _ _ => rfl)
  · exact bPure_ij (F := fun x y => x <<< (y.toInt64 &&& 63)) g q hs (fun _ _ _ => rfl)
  · exact bPure_ij (F := fun x y => x >>> (y.toInt64 &&& 63)) g q hs (fun _ _ _ => rfl)
  · exact bPure_ij (F := fun x y => (x.toUInt64 >>> (y.toInt64.toUInt64 &&& Int64.toUInt64 63)).toInt64) g q hs (fun _ _ _ => rfl)
  · split at g
    · rename_i a r
      obtain ⟨g1, g⟩ := b_bifn g
      replace hs := bmT1_cons hs
      obtain ⟨w, s1, rfl, hx, hs⟩ := hs
      exact bPo_same g q (if_pos (b_cat1 hx g1)) ⟨hx, hx, hs⟩
    · cases g
  · split at g
    · rename_i a b r
      obtain ⟨g1, g⟩ := b_bifn g
      obtain ⟨g1, g2⟩ := b_orf g1
      replace hs := bmT1_cons hs
      obtain ⟨w, s1, rfl, hx, hs⟩ := hs
      replace hs := bmT1_cons hs
      obtain ⟨v, s, rfl, hy, hs⟩ := hs
      exact bPo_same g q (if_pos ⟨b_cat1 hx g1, b_cat1 hy g2⟩) ⟨hx, hy, hx, hs⟩
    · cases g
  · split at g
    · rename_i a b r
      obtain ⟨g1, g⟩ := b_bifn g
      obtain ⟨g1, g2⟩ := b_orf g1
      replace hs := bmT1_cons hs
      obtain ⟨w, s1, rfl, hx, hs⟩ := hs
      replace hs := bmT1_cons hs
      obtain ⟨v, s, rfl, hy, hs⟩ := hs
      exact bPo_same g q (if_pos ⟨b_cat1 hx g1, b_cat1 hy g2⟩) ⟨hx, hy, hx, hy, hs⟩
    · cases g
  · split at g
    · rename_i a r
      obtain ⟨g1, g⟩ := b_bifn g
      replace hs := bmT1_cons hs
      obtain ⟨w, s1, rfl, hx, hs⟩ := hs
      exact bPo_same g q (if_pos (b_cat1 hx g1)) hs
    · cases g
  · split at g
    · rename_i a r
      replace hs := bmT1_cons hs
      obtain ⟨w, s1, rfl, hx, hs⟩ := hs
      obtain ⟨g1, g⟩ := b_bif g
      exact bPo_same g q (if_pos (by rw [bmV_cat hx, g1]; rfl)) hs
    · cases g
  · split at g
    · rename_i c a r
      replace hs := bmT1_cons hs
      obtain ⟨w, s1, rfl, hx, hs⟩ := hs
      replace hs := bmT1_cons hs
      obtain ⟨v, s, rfl, hy, hs⟩ := hs
      obtain ⟨y, rfl, hb⟩ := hx
      obtain ⟨x, rfl, ha⟩ := hy
      have hc : y.toInt = c := hb
      obtain ⟨ι', S', b, g1, g2, g3, g4, g5⟩ := bAdd_ok (z := x + y) g q ha (by rw [Int32.toInt_add, hc])
      exact ⟨ι', S', _, _, rfl, g1, g2, g3, ⟨⟨_, rfl, g4⟩, bmT1_mono g2 (bEx_refl h) hs⟩, g5⟩
    · exact bPure_2 g q hs
    · cases g
  · split at g
    · exact bPure_2 g q hs
    · cases g
/-! locals -/
def bSet {α : Type} : List α → Nat → α → (List α → Bool) → Bool
  | [], _, _, f => f []
  | a :: r, n, v, f => (match n with
    | 0 => f (v :: r)
    | m + 1 => bSet r m v (fun r' => f (a :: r')))
theorem bSet_eq {α : Type} : ∀ (l : List α) (n : Nat) (v : α) (f : List α → Bool), bSet l n v f = f (l.set n v) := by
  intro l
  induction l with
  | nil => intro n v f; rfl
  | cons a r ih =>
    intro n v f
    cases n with
    | zero => rfl
    | succ m => exact ih m v (fun r' => f (a :: r'))
def bIsL (o : Option (Option bV)) : Bool := match o with
  | some (some v) => bJk v
  | _ => false
def bKil (L : bLo) (i : Nat) (f : bLo → Bool) : Bool := match i with
  | 0 => f L
  | j + 1 => bif bIsL (aNth L j) then bSet L j none f else f L
def bPut (L : bLo) (i : Nat) (v : bV) (f : bLo → Bool) : Bool := bKil L i fun L1 => bSet L1 i (some v) f
def bPutL (L : bLo) (i : Nat) (v : bV) (f : bLo → Bool) : Bool := bPut L i v fun L1 => bSet L1 (i + 1) none f
theorem bmL_none {ι : List Value} {h : sHp} {L : bLo} {vL : sLo} (q : bmL ι h L vL) (i : Nat) (o : Option Value) : bmL ι h (L.set i none) (vL.set i o) := by
  refine ⟨by rw [List.length_set, List.length_set]; exact q.1, fun j v hv => ?_⟩
  rw [List.getElem?_set] at hv
  split at hv
  · split at hv <;> cases hv
  · rename_i e
    rw [List.getElem?_set_ne e]
    exact q.2 j v hv
theorem bmL_none' {ι : List Value} {h : sHp} {L : bLo} {vL : sLo} (q : bmL ι h L vL) (i : Nat) : bmL ι h (L.set i none) vL := by
  refine ⟨by rw [List.length_set]; exact q.1, fun j v hv => ?_⟩
  rw [List.getElem?_set] at hv
  split at hv
  · split at hv <;> cases hv
  · exact q.2 j v hv
theorem bmL_some {ι : List Value} {h : sHp} {L : bLo} {vL : sLo} (q : bmL ι h L vL) (i : Nat) {v : bV} {w : Value} (hv : bmV ι h v w) : bmL ι h (L.set i (some v)) (vL.set i (some w)) := by
  refine ⟨by rw [List.length_set, List.length_set]; exact q.1, fun j u hu => ?_⟩
  rw [List.getElem?_set] at hu
  split at hu
  · rename_i e
    subst e
    split at hu
    · rename_i hl
      cases hu
      exact ⟨w, by rw [List.getElem?_set_self (by rw [← q.1]; exact hl)], hv⟩
    · cases hu
  · rename_i e
    rw [List.getElem?_set_ne e]
    exact q.2 j u hu
theorem bKil_ok {ι : List Value} {h : sHp} {L : bLo} {vL : sLo} {i : Nat} {f : bLo → Bool} (g : bKil L i f = true) (q : bmL ι h L vL) : ∃ L1, f L1 = true ∧ bmL ι h L1 (sKill vL i) := by
  unfold bKil at g
  unfold sKill
  cases i with
  | zero => exact ⟨L, g, q⟩
  | succ j =>
    dsimp only at g ⊢
    rw [bSet_eq, aNth_eq] at g
    cases hb : bIsL L[j]? with
    | true =>
      rw [hb] at g
      refine ⟨_, g, ?_⟩
      split
      · exact bmL_none q j none
      · exact bmL_none' q j
    | false =>
      rw [hb] at g
      refine ⟨L, g, ?_⟩
      split
      · rename_i hs
        refine ⟨by rw [List.length_set]; exact q.1, fun k v hv => ?_⟩
        by_cases e : j = k
        · subst e
          exfalso
          obtain ⟨w, h1, h2⟩ := q.2 j v hv
          rw [h1] at hs
          rw [hv] at hb
          have h3 := bmV_cat h2
          have h4 : bJk v = false := hb
          rw [h4] at h3
          cases w <;> first | (cases hs; done) | (cases h3)
        · rw [List.getElem?_set_ne e]
          exact q.2 k v hv
      · exact q
theorem bPut_ok {ι : List Value} {h : sHp} {L : bLo} {vL : sLo} {i : Nat} {v : bV} {w : Value} {f : bLo → Bool} (g : bPut L i v f = true) (q : bmL ι h L vL) (hv : bmV ι h v w) : ∃ L1, f L1 = true ∧ bmL ι h L1 (sPut vL i w) := by
  unfold bPut at g
  obtain ⟨L1, g1, q1⟩ := bKil_ok g q
  rw [bSet_eq] at g1
  exact ⟨_, g1, bmL_some q1 i hv⟩
theorem bPutL_ok {ι : List Value} {h : sHp} {L : bLo} {vL : sLo} {i : Nat} {v : bV} {w : Value} {f : bLo → Bool} (g : bPutL L i v f = true) (q : bmL ι h L vL) (hv : bmV ι h v w) : ∃ L1, f L1 = true ∧ bmL ι h L1 (sPutL vL i w) := by
  unfold bPutL at g
  obtain ⟨L1, g1, q1⟩ := bPut_ok g q hv
  rw [bSet_eq] at g1
  exact ⟨_, g1, bmL_none q1 (i + 1) none⟩
def bLdK (k : Nat) (v : bV) : Bool := match v with
  | .inl _ => Nat.beq k 0
  | .inr (t, _) => (match t with
    | 0 => Nat.beq k 1
    | _ + 1 => Nat.beq k 2)
def bLd (k i : Nat) (S : bS) (L : bLo) (st : List bV) (f : bS → bLo → List bV → Bool) : Bool := match aNth L i with
  | some (some v) => bif bLdK k v then f S L (v :: st) else false
  | _ => false
def bSt1 (k i : Nat) (S : bS) (L : bLo) (st : List bV) (f : bS → bLo → List bV → Bool) : Bool := match st with
  | v :: r => bif bLdK k v && Nat.blt i L.length then bPut L i v (fun L1 => f S L1 r) else false
  | _ => false
def bStL (i : Nat) (S : bS) (L : bLo) (st : List bV) (f : bS → bLo → List bV → Bool) : Bool := match st with
  | v :: r => bif bLdK 1 v && Nat.blt (i + 1) L.length then bPutL L i v (fun L1 => f S L1 r) else false
  | _ => false
def bLoc (ins : Instr) (S : bS) (L : bLo) (st : List bV) (f : bS → bLo → List bV → Bool) : Bool := match ins with
  | .iload i => bLd 0 i S L st f
  | .iload_n i => bLd 0 i S L st f
  | .lload i => bLd 1 i S L st f
  | .lload_n i => bLd 1 i S L st f
  | .aload i => bLd 2 i S L st f
  | .aload_n i => bLd 2 i S L st f
  | .istore i => bSt1 0 i S L st f
  | .istore_n i => bSt1 0 i S L st f
  | .lstore i => bStL i S L st f
  | .lstore_n i => bStL i S L st f
  | .astore i => bSt1 2 i S L st f
  | .astore_n i => bSt1 2 i S L st f
  | .iinc i n => (match aNth L i with
    | some (some (.inl a)) => bif decide (-2147483648 ≤ n) && decide (n ≤ 2147483647) then bAdd S a n (fun S1 b => bPut L i (.inl b) (fun L1 => f S1 L1 st)) else false
    | _ => false)
  | _ => false
def bLr (ι : List Value) (h : sHp) (S : bS) (f : bS → bLo → List bV → Bool) (o : Option (sLo × List Value)) : Prop := ∃ ι' S' L' st' vL' ws', o = some (vL', ws') ∧ f S' L' st' = true ∧ bLe ι ι' ∧ bmS ι' h S' ∧ bmL ι' h L' vL' ∧ bmT1 ι' h st' ws' ∧ S'.2.1 = S.2.1
theorem bLdK_ok {ι : List Value} {h : sHp} {k : Nat} {v : bV} {w : Value} (g : bLdK k v = true) (q : bmV ι h v w) : (k = 0 ∧ ∃ x, w = .int x) ∨ (k = 1 ∧ ∃ x, w = .long x) ∨ (k = 2 ∧ (w = .null ∨ ∃ p, w = .ref p)) := by
  rcases v with a | ⟨t, K⟩
  · obtain ⟨x, e, -⟩ := q
    exact Or.inl ⟨aBt g, x, e⟩
  · match t, g, q with
    | 0, g, q => exact Or.inr (Or.inl ⟨aBt g, q⟩)
    | 1, g, q => exact Or.inr (Or.inr ⟨aBt g, Or.inl q⟩)
    | 2, g, q =>
      obtain ⟨p, e, -⟩ := q
      exact Or.inr (Or.inr ⟨aBt g, Or.inr ⟨p, e⟩⟩)
    | k + 3, g, q => exact Or.inr (Or.inr ⟨aBt g, q.2.imp id (fun ⟨p, e, _⟩ => ⟨p, e⟩)⟩)
section LOC
variable {ι : List Value} {h : sHp} {S : bS} {L : bLo} {st : List bV} {f : bS → bLo → List bV → Bool} {vL : sLo} {ws : List Value} {i : Nat}
theorem bLd_ok {k : Nat} {o : Option (sLo × List Value)} (g : bLd k i S L st f = true) (q : bmS ι h S) (hL : bmL ι h L vL) (hs : bmT1 ι h st ws) (ho : ∀ w, vL[i]? = some (some w) → ((k = 0 ∧ ∃ x, w = .int x) ∨ (k = 1 ∧ ∃ x, w = .long x) ∨ (k = 2 ∧ (w = .null ∨ ∃ p, w = .ref p))) → o = some (vL, w :: ws)) : bLr ι h S f o := by
  unfold bLd at g
  rw [aNth_eq] at g
  split at g
  · rename_i v hv
    obtain ⟨g1, g⟩ := b_bif g
    obtain ⟨w, h1, h2⟩ := hL.2 i v hv
    exact ⟨ι, S, L, _, vL, _, ho w h1 (bLdK_ok g1 h2), g, bLe_refl ι, q, hL, ⟨h2, hs⟩, rfl⟩
  · cases g
theorem bSt1_ok {k : Nat} {o : Option (sLo × List Value)} (g : bSt1 k i S L st f = true) (q : bmS ι h S) (hL : bmL ι h L vL) (hs : bmT1 ι h st ws) (ho : ∀ w s, ws = w :: s → i < vL.length → ((k = 0 ∧ ∃ x, w = .int x) ∨ (k = 1 ∧ ∃ x, w = .long x) ∨ (k = 2 ∧ (w = .null ∨ ∃ p, w = .ref p))) → o = some (sPut vL i w, s)) : bLr ι h S f o := by
  unfold bSt1 at g
  split at g
  · rename_i v r
    obtain ⟨g1, g⟩ := b_bif g
    obtain ⟨g1, g2⟩ := aBa g1
    replace hs := bmT1_cons hs
    obtain ⟨w, s, rfl, hv, hs⟩ := hs
    obtain ⟨L1, g3, q3⟩ := bPut_ok g hL hv
    exact ⟨ι, S, L1, r, _, s, ho w s rfl (by rw [← hL.1]; exact aBl g2) (bLdK_ok g1 hv), g3, bLe_refl ι, q, q3, hs, rfl⟩
  · cases g
theorem bStL_ok {o : Option (sLo × List Value)} (g : bStL i S L st f = true) (q : bmS ι h S) (hL : bmL ι h L vL) (hs : bmT1 ι h st ws) (ho : ∀ x s, ws = .long x :: s → i + 1 < vL.length → o = some (sPutL vL i (.long x), s)) : bLr ι h S f o := by
  unfold bStL at g
  split at g
  · rename_i v r
    obtain ⟨g1, g⟩ := b_bif g
    obtain ⟨g1, g2⟩ := aBa g1
    replace hs := bmT1_cons hs
    obtain ⟨w, s, rfl, hv, hs⟩ := hs
    obtain ⟨L1, g3, q3⟩ := bPutL_ok g hL hv
    rcases bLdK_ok g1 hv with ⟨e, -⟩ | ⟨-, x, rfl⟩ | ⟨e, -⟩
    · cases e
    · exact ⟨ι, S, L1, r, _, s, ho x s rfl (by rw [← hL.1]; exact aBl g2), g3, bLe_refl ι, q, q3, hs, rfl⟩
    · cases e
  · cases g
theorem b_ldI {w : Value} (hw : vL[i]? = some (some w)) (hk : ((0 : Nat) = 0 ∧ ∃ x, w = .int x) ∨ ((0 : Nat) = 1 ∧ ∃ x, w = .long x) ∨ ((0 : Nat) = 2 ∧ (w = .null ∨ ∃ p, w = .ref p))) : sLdI vL i ws = some (vL, w :: ws) := by
  rcases hk with ⟨-, x, rfl⟩ | ⟨e, -⟩ | ⟨e, -⟩
  · unfold sLdI; rw [hw]
  · cases e
  · cases e
theorem b_ldL {w : Value} (hw : vL[i]? = some (some w)) (hk : ((1 : Nat) = 0 ∧ ∃ x, w = .int x) ∨ ((1 : Nat) = 1 ∧ ∃ x, w = .long x) ∨ ((1 : Nat) = 2 ∧ (w = .null ∨ ∃ p, w = .ref p))) : sLdL vL i ws = some (vL, w :: ws) := by
  rcases hk with ⟨e, -⟩ | ⟨-, x, rfl⟩ | ⟨e, -⟩
  · cases e
  · unfold sLdL; rw [hw]
  · cases e
theorem b_ldA {w : Value} (hw : vL[i]? = some (some w)) (hk : ((2 : Nat) = 0 ∧ ∃ x, w = .int x) ∨ ((2 : Nat) = 1 ∧ ∃ x, w = .long x) ∨ ((2 : Nat) = 2 ∧ (w = .null ∨ ∃ p, w = .ref p))) : sLdA vL i ws = some (vL, w :: ws) := by
  rcases hk with ⟨e, -⟩ | ⟨e, -⟩ | ⟨-, rfl | ⟨x, rfl⟩⟩
  · cases e
  · cases e
  · unfold sLdA; rw [hw]
  · unfold sLdA; rw [hw]
theorem b_stI {w : Value} {s : List Value} (hl : i < vL.length) (hk : ((0 : Nat) = 0 ∧ ∃ x, w = .int x) ∨ ((0 : Nat) = 1 ∧ ∃ x, w = .long x) ∨ ((0 : Nat) = 2 ∧ (w = .null ∨ ∃ p, w = .ref p))) : sStI vL i (w :: s) = some (sPut vL i w, s) := by
  rcases hk with ⟨-, x, rfl⟩ | ⟨e, -⟩ | ⟨e, -⟩
  · unfold sStI; dsimp only; rw [if_pos hl]
  · cases e
  · cases e
theorem b_stA {w : Value} {s : List Value} (hl : i < vL.length) (hk : ((2 : Nat) = 0 ∧ ∃ x, w = .int x) ∨ ((2 : Nat) = 1 ∧ ∃ x, w = .long x) ∨ ((2 : Nat) = 2 ∧ (w = .null ∨ ∃ p, w = .ref p))) : sStA vL i (w :: s) = some (sPut vL i w, s) := by
  rcases hk with ⟨e, -⟩ | ⟨e, -⟩ | ⟨-, rfl | ⟨x, rfl⟩⟩
  · cases e
  · cases e
  · unfold sStA; dsimp only; rw [if_pos hl]
  · unfold sStA; dsimp only; rw [if_pos hl]
theorem b_stL {x : Int64} {s : List Value} (hl : i + 1 < vL.length) : sStL vL i (.long x :: s) = some (sPutL vL i (.long x), s) := by
  unfold sStL; dsimp only; rw [if_pos hl]
theorem bLoc_ok {ins : Instr} (g : bLoc ins S L st f = true) (q : bmS ι h S) (hL : bmL ι h L vL) (hs : bmT1 ι h st ws) : bLr ι h S f (sLoc ins vL ws) := by
  unfold bLoc at g
  split at g
  · exact bLd_ok g q hL hs (fun w => b_ldI)
  · exact bLd_ok g q hL hs (fun w => b_ldI)
  · exact bLd_ok g q hL hs (fun w => b_ldL)
  · exact bLd_ok g q hL hs (fun w => b_ldL)
  · exact bLd_ok g q hL hs (fun w => b_ldA)
  · exact bLd_ok g q hL hs (fun w => b_ldA)
  · exact bSt1_ok g q hL hs (fun w s e hl hk => by subst e; exact b_stI hl hk)
  · exact bSt1_ok g q hL hs (fun w s e hl hk => by subst e; exact b_stI hl hk)
  · exact bStL_ok g q hL hs (fun x s e hl => by subst e; exact b_stL hl)
  · exact bStL_ok g q hL hs (fun x s e hl => by subst e; exact b_stL hl)
  · exact bSt1_ok g q hL hs (fun w s e hl hk => by subst e; exact b_stA hl hk)
  · exact bSt1_ok g q hL hs (fun w s e hl hk => by subst e; exact b_stA hl hk)
  · rename_i i n
    rw [aNth_eq] at g
    split at g
    · rename_i a hv
      obtain ⟨g1, g⟩ := b_bif g
      obtain ⟨g1, g2⟩ := aBa g1
      have g1 := of_decide_eq_true g1
      have g2 := of_decide_eq_true g2
      obtain ⟨w, h1, x, rfl, hx⟩ := hL.2 i _ hv
      obtain ⟨ι', S', b, k1, k2, k3, k4, k5⟩ := bAdd_ok (z := x + Int32.ofInt n) g q hx (by rw [Int32.toInt_add, Int32.toInt_ofInt_of_le (by omega) (by omega)])
      obtain ⟨L1, g3, q3⟩ := bPut_ok (w := .int (x + Int32.ofInt n)) k1 (bmL_mono k2 (bEx_refl h) hL) ⟨_, rfl, k4⟩
      refine ⟨ι', S', L1, st, _, ws, ?_, g3, k2, k3, q3, bmT1_mono k2 (bEx_refl h) hs, k5⟩
      show sInc vL i n ws = _
      unfold sInc
      rw [h1]
    · cases g
  · cases g
end LOC
