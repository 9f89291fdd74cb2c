/-! ===== the second executor: jumps, answers, arguments ===== -/
def bGo (pc : Nat) (off : Int) (f : Nat → Bool) : Bool := match sTgt pc off with
  | some t => aF t f
  | none => false
theorem bGo_ok {pc : Nat} {off : Int} {f : Nat → Bool} (g : bGo pc off f = true) : ∃ t, sTgt pc off = some t ∧ f t = true := by
  unfold bGo at g
  cases h : sTgt pc off with
  | none => rw [h] at g; cases g
  | some t =>
    rw [h] at g
    dsimp only at g
    rw [aF_eq] at g
    exact ⟨t, rfl, g⟩
def bNl (S : bS) (v : bV) (fN fR : bS → Bool) : Bool := match v with
  | .inr (t, _) => (match t with
    | 0 => false
    | 1 => fN S
    | 2 => fR S
    | k + 3 => (match bNn S.2.2.2.2.1 k with
      | some true => fR S
      | some false => fN S
      | none => (match S with
        | (n, g, G, D, N, r) => fN (n, g, G, D, (k, false) :: N, r) && fR (n, g, G, D, (k, true) :: N, r))))
  | _ => false
theorem bNl_ok {ι : List Value} {h : sHp} {S : bS} {v : bV} {w : Value} {fN fR : bS → Bool} (g : bNl S v fN fR = true) (q : bmS ι h S) (hv : bmV ι h v w) : (w = .null ∧ ∃ S', fN S' = true ∧ bmS ι h S' ∧ S'.2.1 = S.2.1) ∨ ((∃ p, w = .ref p) ∧ ∃ S', fR S' = true ∧ bmS ι h S' ∧ S'.2.1 = S.2.1) := by
  rcases v with a | ⟨t, K⟩
  · cases g
  · match t, g, hv with
    | 0, g, _ => cases g
    | 1, g, hv => exact Or.inl ⟨hv, S, g, q, rfl⟩
    | 2, g, hv =>
      obtain ⟨p, e, -⟩ := hv
      exact Or.inr ⟨⟨p, e⟩, S, g, q, rfl⟩
    | k + 3, g, hv =>
      obtain ⟨h1, h2⟩ := hv
      obtain ⟨n, g0, G, D, N, r⟩ := S
      have g' : (match bNn N k with
        | some true => fR (n, g0, G, D, N, r)
        | some false => fN (n, g0, G, D, N, r)
        | none => fN (n, g0, G, D, (k, false) :: N, r) && fR (n, g0, G, D, (k, true) :: N, r)) = true := g
      have hn := fun b => bNn_ok (b := b) h1 q.2.2.2.1
      cases hb : bNn N k with
      | some b =>
        rw [hb] at g'
        obtain ⟨n1, n2⟩ := hn b hb
        cases b with
        | true =>
          rcases h2 with e | ⟨p, e, -⟩
          · exact absurd e (n1 rfl)
          · exact Or.inr ⟨⟨p, e⟩, _, g', q, rfl⟩
        | false => exact Or.inl ⟨n2 rfl, _, g', q, rfl⟩
      | none =>
        rw [hb] at g'
        obtain ⟨ga, gb⟩ := aBa g'
        rcases h2 with e | ⟨p, e, -⟩
        · refine Or.inl ⟨e, _, ga, ⟨q.1, q.2.1, q.2.2.1, ?_, q.2.2.2.2⟩, rfl⟩
          intro e' he
          have he : e' ∈ (k, false) :: N := he
          rcases List.mem_cons.mp he with rfl | he
          · exact ⟨w, h1, (fun z => by cases z), fun _ => e⟩
          · exact q.2.2.2.1 e' he
        · refine Or.inr ⟨⟨p, e⟩, _, gb, ⟨q.1, q.2.1, q.2.2.1, ?_, q.2.2.2.2⟩, rfl⟩
          intro e' he
          have he : e' ∈ (k, true) :: N := he
          rcases List.mem_cons.mp he with rfl | he
          · exact ⟨w, h1, (fun _ z => by rw [e] at z; cases z), (fun z => by cases z)⟩
          · exact q.2.2.2.1 e' he
def bTs (pc : Nat) (S : bS) (a : bN) (f : Nat → bS → Bool) : Int → List Int → Bool
  | _, [] => true
  | lo, off :: r => aFc lo fun lo => (bGo pc off fun t => bRf S a lo lo (f t)) && bTs pc S a f (lo + 1) r
theorem bTs_ok {ι : List Value} {h : sHp} {pc : Nat} {S : bS} {a : bN} {f : Nat → bS → Bool} (q : bmS ι h S) {x : Int32} (hx : bmI ι a x) : ∀ (l : List Int) (lo : Int), bTs pc S a f lo l = true → lo ≤ x.toInt → x.toInt < lo + l.length → ∃ off t S', l[(x.toInt - lo).toNat]? = some off ∧ sTgt pc off = some t ∧ f t S' = true ∧ bmS ι h S' ∧ S'.2.1 = S.2.1 := by
  intro l
  induction l with
  | nil => intro lo _ h1 h2; rw [List.length_nil] at h2; omega
  | cons off r ih =>
    intro lo g h1 h2
    unfold bTs at g
    rw [aFc_eq] at g
    replace g := aBa g
    obtain ⟨g1, g2⟩ := g
    by_cases e : x.toInt = lo
    · obtain ⟨t, ht, g3⟩ := bGo_ok g1
      obtain ⟨S', k1, k2, k3⟩ := bRf_ok g3 q hx (by omega) (by omega)
      refine ⟨off, t, S', ?_, ht, k1, k2, k3⟩
      rw [show (x.toInt - lo).toNat = 0 by omega]
      rfl
    · rw [List.length_cons] at h2
      obtain ⟨off', t, S', k0, k1⟩ := ih (lo + 1) g2 (by omega) (by omega)
      refine ⟨off', t, S', ?_, k1⟩
      rw [show (x.toInt - lo).toNat = (x.toInt - (lo + 1)).toNat + 1 by omega, List.getElem?_cons_succ]
      exact k0
def bLk (pc : Nat) (S : bS) (a : bN) (f : Nat → bS → Bool) : List (Int × Int) → Bool
  | [] => true
  | e :: r => (bGo pc e.2 fun t => bRf S a e.1 e.1 (f t)) && bLk pc S a f r
theorem bLk_ok {ι : List Value} {h : sHp} {pc : Nat} {S : bS} {a : bN} {f : Nat → bS → Bool} {dflt : Int} (q : bmS ι h S) {x : Int32} (hx : bmI ι a x) (gd : (bGo pc dflt fun t => f t S) = true) : ∀ l : List (Int × Int), bLk pc S a f l = true → ∃ t S', sTgt pc (Op.lookupswitch.offset l dflt x.toInt) = some t ∧ f t S' = true ∧ bmS ι h S' ∧ S'.2.1 = S.2.1 := by
  intro l
  induction l with
  | nil =>
    intro _
    obtain ⟨t, ht, g3⟩ := bGo_ok gd
    exact ⟨t, S, ht, g3, q, rfl⟩
  | cons e r ih =>
    intro g
    obtain ⟨k, o⟩ := e
    unfold bLk at g
    replace g := aBa g
    obtain ⟨g1, g2⟩ := g
    have e1 : Op.lookupswitch.offset ((k, o) :: r) dflt x.toInt = if k = x.toInt then o else Op.lookupswitch.offset r dflt x.toInt := rfl
    by_cases e : k = x.toInt
    · obtain ⟨t, ht, g3⟩ := bGo_ok g1
      obtain ⟨S', k1, k2, k3⟩ := bRf_ok g3 q hx (by dsimp only; omega) (by dsimp only; omega)
      exact ⟨t, S', by rw [e1, if_pos e]; exact ht, k1, k2, k3⟩
    · rw [e1, if_neg e]
      exact ih g2
def bIf (sp : Bool) (c : Jvm.ClassFile.Cond) (pc : Nat) (off : Int) (S : bS) (a b : bN) (f : Nat → bS → Bool) : Bool := bGo pc off fun t => bCnd sp c S a b (f t) && aF (pc + 3) fun t1 => bCnd sp (bNg c) S a b (f t1)
def bJmp (sp : Bool) (ins : Instr) (pc : Nat) (S : bS) (st : List bV) (f : Nat → bS → List bV → Bool) : Bool := match ins with
  | .goto off => bGo pc off fun t => f t S st
  | .if_icmp c off => (match st with
    | .inl b :: .inl a :: r => bIf sp c pc off S a b (fun t S1 => f t S1 r)
    | _ => false)
  | .ifCond c off => (match st with
    | .inl a :: r => bIf sp c pc off S a (.inr 0) (fun t S1 => f t S1 r)
    | _ => false)
  | .ifnull off => (match st with
    | v :: r => bGo pc off fun t => aF (pc + 3) fun t1 => bNl S v (fun S1 => f t S1 r) (fun S1 => f t1 S1 r)
    | _ => false)
  | .ifnonnull off => (match st with
    | v :: r => bGo pc off fun t => aF (pc + 3) fun t1 => bNl S v (fun S1 => f t1 S1 r) (fun S1 => f t S1 r)
    | _ => false)
  | .tableswitch dflt lo hi offs => (match st with
    | .inl a :: r => (match bI S a with
      | (x, y) => (bGo pc dflt fun t => bRf S a x (lo - 1) (fun S1 => f t S1 r) && bRf S a (hi + 1) y (fun S1 => f t S1 r)) && (decide (hi < lo + offs.toList.length) && bTs pc S a (fun t S1 => f t S1 r) lo offs.toList))
    | _ => false)
  | .lookupswitch dflt ps => (match st with
    | .inl a :: r => (bGo pc dflt fun t => f t S r) && bLk pc S a (fun t S1 => f t S1 r) ps.toList
    | _ => false)
  | _ => false
def bJo (ι : List Value) (h : sHp) (S : bS) (f : Nat → bS → List bV → Bool) (o : Option (Nat × List Value)) : Prop := ∃ t S' st' ws', o = some (t, ws') ∧ f t S' st' = true ∧ bmS ι h S' ∧ bmT1 ι h st' ws' ∧ S'.2.1 = S.2.1
section JMP
variable {ι : List Value} {h : sHp} {S : bS} {st : List bV} {ws : List Value} {pc : Nat}
theorem bIf_ok {sp : Bool} {c : Jvm.ClassFile.Cond} {off : Int} {a b : bN} {r : List bV} {f : Nat → bS → List bV → Bool} {x y : Int32} {s : List Value} (g : bIf sp c pc off S a b (fun t S1 => f t S1 r) = true) (q : bmS ι h S) (hx : bmI ι a x) (hy : bmI ι b y) (hr : bmT1 ι h r s) : bJo ι h S f (sIf pc off (sC2 c x y) s) := by
  unfold bIf at g
  obtain ⟨t, ht, g⟩ := bGo_ok g
  replace g := aBa g
  obtain ⟨g1, g2⟩ := g
  rw [aF_eq] at g2
  cases hc : sC2 c x y with
  | true =>
    obtain ⟨S', k1, k2, k3⟩ := bCnd_ok g1 q hx hy hc
    refine ⟨t, S', r, s, ?_, k1, k2, hr, k3⟩
    unfold sIf
    rw [ht]; rfl
  | false =>
    obtain ⟨S', k1, k2, k3⟩ := bCnd_ok g2 q hx hy (bNg_ok hc)
    refine ⟨pc + 3, S', r, s, ?_, k1, k2, hr, k3⟩
    unfold sIf
    rw [ht]; rfl
theorem bJmp_ok {sp : Bool} {ins : Instr} {f : Nat → bS → List bV → Bool} (g : bJmp sp ins pc S st f = true) (q : bmS ι h S) (hs : bmT1 ι h st ws) : bJo ι h S f (sJmp ins pc ws) := by
  unfold bJmp at g
  split at g
  · rename_i off
    obtain ⟨t, ht, g⟩ := bGo_ok g
    refine ⟨t, S, st, ws, ?_, g, q, hs, rfl⟩
    show (sTgt pc off).map _ = _
    rw [ht]; rfl
  · split at g
    · rename_i b a r
      replace hs := bmT1_cons hs
      obtain ⟨w, s1, rfl, hx, hs⟩ := hs
      replace hs := bmT1_cons hs
      obtain ⟨v, s, rfl, hy, hs⟩ := hs
      obtain ⟨y, rfl, hb⟩ := hx
      obtain ⟨x, rfl, ha⟩ := hy
      exact bIf_ok g q ha hb hs
    · cases g
  · split at g
    · rename_i a r
      replace hs := bmT1_cons hs
      obtain ⟨w, s1, rfl, hx, hs⟩ := hs
      obtain ⟨x, rfl, ha⟩ := hx
      exact bIf_ok g q ha (show bmI ι (.inr 0) 0 from rfl) hs
    · cases g
  · rename_i off
    split at g
    · rename_i v r
      replace hs := bmT1_cons hs
      obtain ⟨w, s1, rfl, hx, hs⟩ := hs
      obtain ⟨t, ht, g⟩ := bGo_ok g
      rw [aF_eq] at g
      rcases bNl_ok g q hx with ⟨rfl, S', k1, k2, k3⟩ | ⟨⟨p, rfl⟩, S', k1, k2, k3⟩
      · refine ⟨t, S', r, s1, ?_, k1, k2, hs, k3⟩
        show sIf pc off true s1 = _
        unfold sIf
        rw [ht]; rfl
      · refine ⟨pc + 3, S', r, s1, ?_, k1, k2, hs, k3⟩
        show sIf pc off false s1 = _
        unfold sIf
        rw [ht]; rfl
    · cases g
  · rename_i off
    split at g
    · rename_i v r
      replace hs := bmT1_cons hs
      obtain ⟨w, s1, rfl, hx, hs⟩ := hs
      obtain ⟨t, ht, g⟩ := bGo_ok g
      rw [aF_eq] at g
      rcases bNl_ok g q hx with ⟨rfl, S', k1, k2, k3⟩ | ⟨⟨p, rfl⟩, S', k1, k2, k3⟩
      · refine ⟨pc + 3, S', r, s1, ?_, k1, k2, hs, k3⟩
        show sIf pc off false s1 = _
        unfold sIf
        rw [ht]; rfl
      · refine ⟨t, S', r, s1, ?_, k1, k2, hs, k3⟩
        show sIf pc off true s1 = _
        unfold sIf
        rw [ht]; rfl
    · cases g
  · rename_i dflt lo hi offs
    split at g
    · rename_i a r
      replace hs := bmT1_cons hs
      obtain ⟨w, s1, rfl, hx, hs⟩ := hs
      obtain ⟨x, rfl, ha⟩ := hx
      have h0 := bI_ok q ha
      generalize bI S a = p at g h0
      obtain ⟨u, y⟩ := p
      unfold aW at h0
      dsimp only at g h0
      replace g := aBa g
      obtain ⟨g1, g2⟩ := g
      replace g2 := aBa g2
      obtain ⟨g2, g3⟩ := g2
      replace g2 := of_decide_eq_true g2
      obtain ⟨t, ht, g1⟩ := bGo_ok g1
      replace g1 := aBa g1
      obtain ⟨g4, g5⟩ := g1
      have e : sJmp (.tableswitch dflt lo hi offs) pc (.int x :: s1) = if x.toInt < lo ∨ hi < x.toInt then (sTgt pc dflt).map (fun t => (t, s1)) else (match offs[(x.toInt - lo).toNat]? with
        | some off => (sTgt pc off).map (fun t => (t, s1))
        | none => none) := rfl
      rw [e]
      by_cases h1 : x.toInt < lo
      · rw [if_pos (Or.inl h1), ht]
        obtain ⟨S', k1, k2, k3⟩ := bRf_ok g4 q ha (by omega) (by omega)
        exact ⟨t, S', r, s1, rfl, k1, k2, hs, k3⟩
      · by_cases h2 : hi < x.toInt
        · rw [if_pos (Or.inr h2), ht]
          obtain ⟨S', k1, k2, k3⟩ := bRf_ok g5 q ha (by omega) (by omega)
          exact ⟨t, S', r, s1, rfl, k1, k2, hs, k3⟩
        · rw [if_neg (by omega)]
          obtain ⟨off, t', S', k0, k1, k2, k3, k4⟩ := bTs_ok q ha _ _ g3 (by omega) (by omega)
          rw [Array.getElem?_toList] at k0
          rw [k0]
          dsimp only
          rw [k1]
          exact ⟨t', S', r, s1, rfl, k2, k3, hs, k4⟩
    · cases g
  · rename_i dflt ps
    split at g
    · rename_i a r
      replace hs := bmT1_cons hs
      obtain ⟨w, s1, rfl, hx, hs⟩ := hs
      obtain ⟨x, rfl, ha⟩ := hx
      replace g := aBa g
      obtain ⟨g1, g2⟩ := g
      obtain ⟨t, S', k1, k2, k3, k4⟩ := bLk_ok q ha g1 _ g2
      refine ⟨t, S', r, s1, ?_, k2, k3, hs, k4⟩
      show (sTgt pc (Op.lookupswitch.offset ps.toList dflt x.toInt)).map _ = _
      rw [k1]; rfl
    · cases g
  · cases g
end JMP
/-! answers -/
def bmR (ι : List Value) (h : sHp) (v : Option bV) (r : Option Value) : Prop := match v, r with
  | none, none => True
  | some v, some w => bmV ι h v w
  | _, _ => False
def bRet (ins : Instr) (rt : Option FieldType) (S : bS) (st : List bV) (f : Option bV → Bool) : Bool := match ins with
  | .ireturn => (match st with
    | [.inl a] => (match rt with
      | some .int => f (some (.inl a))
      | some .boolean => (match bI S a with
        | (x, y) => bif decide (0 ≤ x) && decide (y ≤ 1) then f (some (.inl a)) else false)
      | _ => false)
    | _ => false)
  | .lreturn => (match st with
    | [v] => (match rt with
      | some .long => bif bJk v then f (some v) else false
      | _ => false)
    | _ => false)
  | .areturn => (match st with
    | [v] => (match rt with
      | some (.object _) => bif bLdK 2 v then f (some v) else false
      | _ => false)
    | _ => false)
  | .return_ => (match st with
    | [] => (match rt with
      | none => f none
      | _ => false)
    | _ => false)
  | _ => false
theorem bRet_ok {ι : List Value} {h : sHp} {ins : Instr} {rt : Option FieldType} {S : bS} {st : List bV} {ws : List Value} {f : Option bV → Bool} (g : bRet ins rt S st f = true) (q : bmS ι h S) (hs : bmT1 ι h st ws) : ∃ v r, sRet rt ins ws = some r ∧ f v = true ∧ bmR ι h v r := by
  unfold bRet at g
  split at g
  · split at g
    · rename_i a
      replace hs := bmT1_cons hs
      obtain ⟨w, s1, rfl, hx, hs⟩ := hs
      have e := bmT1_nil hs
      subst e
      obtain ⟨x, rfl, ha⟩ := hx
      split at g
      · exact ⟨_, some (.int x), if_pos rfl, g, x, rfl, ha⟩
      · have h0 := bI_ok q ha
        generalize bI S a = p at g h0
        obtain ⟨u, y⟩ := p
        unfold aW at h0
        dsimp only at g h0
        replace g := b_bif g
        obtain ⟨g1, g⟩ := g
        replace g1 := aBa g1
        obtain ⟨g1, g2⟩ := g1
        replace g1 := of_decide_eq_true g1
        replace g2 := of_decide_eq_true g2
        refine ⟨_, some (.int x), ?_, g, x, rfl, ha⟩
        rcases b_bit (x := x) (Int.le_refl 0) (Int.le_refl 1) (by omega) (by omega) with rfl | rfl
        · exact if_pos (c := narrow .boolean (.int 0) = .int 0) (e := none) rfl
        · exact if_pos (c := narrow .boolean (.int 1) = .int 1) (e := none) rfl
      · cases g
    · cases g
  · split at g
    · rename_i v
      replace hs := bmT1_cons hs
      obtain ⟨w, s1, rfl, hx, hs⟩ := hs
      have e := bmT1_nil hs
      subst e
      split at g
      · replace g := b_bif g
        obtain ⟨g1, g⟩ := g
        obtain ⟨x, rfl⟩ := bJk_ok g1 hx
        exact ⟨_, some (.long x), rfl, g, hx⟩
      · cases g
    · cases g
  · split at g
    · rename_i v
      replace hs := bmT1_cons hs
      obtain ⟨w, s1, rfl, hx, hs⟩ := hs
      have e := bmT1_nil hs
      subst e
      split at g
      · replace g := b_bif g
        obtain ⟨g1, g⟩ := g
        rcases bLdK_ok g1 hx with ⟨e, -⟩ | ⟨e, -⟩ | ⟨-, rfl | ⟨p, rfl⟩⟩
        · cases e
        · cases e
        · exact ⟨_, some .null, rfl, g, hx⟩
        · exact ⟨_, some (.ref p), rfl, g, hx⟩
      · cases g
    · cases g
  · split at g
    · have e := bmT1_nil hs
      subst e
      split at g
      · exact ⟨none, none, rfl, g, trivial⟩
      · cases g
    · cases g
  · cases g
/-! calls of the library's -/
def bSpc (ins : Instr) (S : bS) (st : List bV) (f : bS → List bV → Bool) : Bool := match ins with
  | .invokestatic k => (match st with
    | .inl b :: r => bif Nat.beq k 1002 then bNew (-2147483648) 2147483647 S (fun S x => f S (.inl x :: r)) else (match r with
      | .inl a :: r1 => (match bI S a with
        | (x, y) => (match bI S b with
          | (u, v) => bif Nat.beq k 1000 then bNew (max x u) (max y v) S (fun S x => f S (.inl x :: r1)) else (bif Nat.beq k 1001 then bNew (min x u) (min y v) S (fun S x => f S (.inl x :: r1)) else false)))
      | _ => false)
    | _ => false)
  | .invokespecial k => (match st with
    | v :: r => bif Nat.beq k 2000 && (match bRef S v with
      | some _ => true
      | none => false) then f S r else false
    | _ => false)
  | _ => false
theorem bSpc_ok {ι : List Value} {h : sHp} {ins : Instr} {S : bS} {st : List bV} {ws : List Value} {f : bS → List bV → Bool} (g : bSpc ins S st f = true) (q : bmS ι h S) (hs : bmT1 ι h st ws) : bPo ι h S f (sSpec ins ws) := by
  unfold bSpc at g
  split at g
  · rename_i k
    split at g
    · rename_i b r
      replace hs := bmT1_cons hs
      obtain ⟨w, s1, rfl, hx, hs⟩ := hs
      obtain ⟨y, rfl, hb⟩ := hx
      cases hk : Nat.beq k 1002 with
      | true =>
        rw [hk] at g
        have e := aBt hk
        subst e
        exact bPo_new g q hs (aFull_ok _) rfl
      | false =>
        rw [hk] at g
        dsimp only [cond] at g
        split at g
        · rename_i a r1
          replace hs := bmT1_cons hs
          obtain ⟨w, s, rfl, hx, hs⟩ := hs
          obtain ⟨x, rfl, ha⟩ := hx
          have h1 := bI_ok q ha
          have h2 := bI_ok q hb
          generalize bI S a = p1 at g h1
          generalize bI S b = p2 at g h2
          obtain ⟨xl, xh⟩ := p1
          obtain ⟨yl, yh⟩ := p2
          unfold aW at h1 h2
          dsimp only at g h1 h2
          cases hk0 : Nat.beq k 1000 with
          | true =>
            rw [hk0] at g
            have e := aBt hk0
            subst e
            refine bPo_new (z := if x < y then y else x) g q hs ?_ rfl
            unfold aW
            dsimp only
            split
            · rename_i z
              have := Int32.lt_iff_toInt_lt.mp z
              omega
            · rename_i z
              have : ¬ x.toInt < y.toInt := fun e => z (Int32.lt_iff_toInt_lt.mpr e)
              omega
          | false =>
            rw [hk0] at g
            dsimp only [cond] at g
            cases hk1 : Nat.beq k 1001 with
            | true =>
              rw [hk1] at g
              have e := aBt hk1
              subst e
              refine bPo_new (z := if y < x then y else x) g q hs ?_ rfl
              unfold aW
              dsimp only
              split
              · rename_i z
                have := Int32.lt_iff_toInt_lt.mp z
                omega
              · rename_i z
                have : ¬ y.toInt < x.toInt := fun e => z (Int32.lt_iff_toInt_lt.mpr e)
                omega
            | false => rw [hk1] at g; cases g
        · cases g
    · cases g
  · rename_i k
    split at g
    · rename_i v r
      replace hs := bmT1_cons hs
      obtain ⟨w, s1, rfl, hx, hs⟩ := hs
      replace g := b_bif g
      obtain ⟨g1, g⟩ := g
      replace g1 := aBa g1
      obtain ⟨g1, g2⟩ := g1
      have e := aBt g1
      subst e
      split at g2
      · rename_i K hr
        obtain ⟨p, rfl, -⟩ := bRef_ok hr q hx
        exact bPo_same g q rfl hs
      · cases g2
    · cases g
  · cases g
/-! arguments -/
def bPop : Nat → List bV → List bV → (List bV → List bV → Bool) → Bool
  | 0, st, acc, f => f acc st
  | n + 1, st, acc, f => (match st with
    | v :: r => bPop n r (v :: acc) f
    | [] => false)
theorem bPop_ok {ι : List Value} {h : sHp} : ∀ (n : Nat) (st acc : List bV) (ws aw : List Value) (f : List bV → List bV → Bool), bPop n st acc f = true → bmT1 ι h st ws → bmT1 ι h acc aw → ∃ as rest, f as rest = true ∧ n ≤ ws.length ∧ bmT1 ι h as ((ws.take n).reverse ++ aw) ∧ bmT1 ι h rest (ws.drop n) := by
  intro n
  induction n with
  | zero => intro st acc ws aw f g hs ha; exact ⟨acc, st, g, Nat.zero_le _, ha, hs⟩
  | succ n ih =>
    intro st acc ws aw f g hs ha
    cases st with
    | nil => cases g
    | cons v r =>
      replace hs := bmT1_cons hs
      obtain ⟨w, s, rfl, hv, hs⟩ := hs
      obtain ⟨as, rest, k1, k2, k3, k4⟩ := ih r (v :: acc) s (w :: aw) f g hs ⟨hv, ha⟩
      refine ⟨as, rest, k1, by rw [List.length_cons]; omega, ?_, k4⟩
      rw [List.take_succ_cons, List.reverse_cons, List.append_assoc]
      exact k3
def bCa : List bV → Nat
  | [] => 0
  | v :: r => (bif bJk v then 2 else 1) + bCa r
theorem bCa_ok {ι : List Value} {h : sHp} : ∀ {st : List bV} {ws : List Value}, bmT1 ι h st ws → (ws.map (fun v => v.category)).sum = bCa st := by
  intro st
  induction st with
  | nil =>
    intro ws hs
    rw [bmT1_nil hs]
    rfl
  | cons v r ih =>
    intro ws hs
    obtain ⟨w, s, rfl, hv, hs⟩ := bmT1_cons hs
    rw [List.map_cons, List.sum_cons, ih hs, bmV_cat hv]
    rfl
def bPad : Nat → (bLo → Bool) → Bool
  | 0, f => f []
  | n + 1, f => bPad n (fun L => f (none :: L))
theorem bPad_eq : ∀ (n : Nat) (f : bLo → Bool), bPad n f = f (List.replicate n none) := by
  intro n
  induction n with
  | zero => intro f; rfl
  | succ n ih => intro f; exact ih _
def bIni : List bV → Nat → (bLo → Bool) → Bool
  | [], n, f => bPad n f
  | v :: r, n, f => bif bJk v then (match n with
    | m + 2 => bIni r m (fun L => f (some v :: none :: L))
    | _ => false) else (match n with
    | m + 1 => bIni r m (fun L => f (some v :: L))
    | 0 => false)
theorem bmL_cons {ι : List Value} {h : sHp} {L : bLo} {vL : sLo} (q : bmL ι h L vL) {o : Option bV} {p : Option Value} (ho : ∀ v, o = some v → ∃ w, p = some w ∧ bmV ι h v w) : bmL ι h (o :: L) (p :: vL) := by
  refine ⟨by rw [List.length_cons, List.length_cons, q.1], fun i v hv => ?_⟩
  cases i with
  | zero =>
    rw [List.getElem?_cons_zero] at hv
    obtain ⟨w, e, h2⟩ := ho v (Option.some.inj hv)
    exact ⟨w, by rw [List.getElem?_cons_zero, e], h2⟩
  | succ i =>
    rw [List.getElem?_cons_succ] at hv ⊢
    exact q.2 i v hv
theorem bIni_ok {ι : List Value} {h : sHp} : ∀ (as : List bV) (ws : List Value) (n : Nat) (f : bLo → Bool), bIni as n f = true → bmT1 ι h as ws → ∃ L, f L = true ∧ (sIniA ws).length ≤ n ∧ bmL ι h L (sIniA ws ++ List.replicate (n - (sIniA ws).length) none) := by
  intro as
  induction as with
  | nil =>
    intro ws n f g hs
    have e := bmT1_nil hs
    subst e
    unfold bIni at g
    rw [bPad_eq] at g
    refine ⟨_, g, Nat.zero_le _, ?_⟩
    refine ⟨by simp [sIniA], fun i v hv => ?_⟩
    rw [List.getElem?_replicate] at hv
    split at hv <;> cases hv
  | cons v r ih =>
    intro ws n f g hs
    replace hs := bmT1_cons hs
    obtain ⟨w, s, rfl, hv, hs⟩ := hs
    unfold bIni at g
    have hc := bmV_cat hv
    cases hj : bJk v with
    | true =>
      rw [hj] at g hc
      dsimp only [cond] at g
      have hc : w.category = 2 := hc
      split at g
      · rename_i m
        obtain ⟨L, k1, k2, k3⟩ := ih s m _ g hs
        have e : sIniA (w :: s) = some w :: none :: sIniA s := by
          show (if w.category = 2 then _ else _) = _
          rw [if_pos hc]
        refine ⟨_, k1, by rw [e, List.length_cons, List.length_cons]; omega, ?_⟩
        rw [e, List.length_cons, List.length_cons, show m + 2 - ((sIniA s).length + 1 + 1) = m - (sIniA s).length by omega]
        exact bmL_cons (bmL_cons k3 (fun v' e' => by cases e')) (fun v' e' => by cases e'; exact ⟨w, rfl, hv⟩)
      · cases g
    | false =>
      rw [hj] at g hc
      dsimp only [cond] at g
      have hc : w.category = 1 := hc
      split at g
      · rename_i m
        obtain ⟨L, k1, k2, k3⟩ := ih s m _ g hs
        have e : sIniA (w :: s) = some w :: sIniA s := by
          show (if w.category = 2 then _ else _) = _
          rw [if_neg (by rw [hc]; decide)]
        refine ⟨_, k1, by rw [e, List.length_cons]; omega, ?_⟩
        rw [e, List.length_cons, show m + 1 - ((sIniA s).length + 1) = m - (sIniA s).length by omega]
        exact bmL_cons k3 (fun v' e' => by cases e'; exact ⟨w, rfl, hv⟩)
      · cases g
theorem bmT1_nd {ι : List Value} {h : sHp} : ∀ {st : List bV} {ws : List Value}, bmT1 ι h st ws → ws.all sNd = true := by
  intro st
  induction st with
  | nil => intro ws hs; rw [bmT1_nil hs]; rfl
  | cons v r ih =>
    intro ws hs
    obtain ⟨w, s, rfl, hv, hs⟩ := bmT1_cons hs
    rw [List.all_cons, bmV_nd hv, ih hs]; rfl
/-! whom a call calls -/
def bCutL : List Nat := [0, 1, 2, 4, 5, 9, 10]
def bCal (ins : Instr) (S : bS) (st : List bV) (f : Nat → List bV → List bV → Bool) : Bool := match ins with
  | .invokestatic k => bPop (sNA k) st [] (fun as rest => f k as rest)
  | .invokespecial k => bPop (sNA k) st [] (fun as rest => (match rest with
    | v :: r => (match bObj S v with
      | some _ => f k (v :: as) r
      | none => false)
    | _ => false))
  | .invokevirtual k => bif Nat.blt k 1000 then bPop (sNA k) st [] (fun as rest => (match rest with
    | v :: r => (match bObj S v with
      | some (K, ci, _) => bif Nat.beq ci (sOwn k) && Nat.blt K 113 then f k (v :: as) r else false
      | none => false)
    | _ => false)) else bPop (sVt k 100) st [] (fun as rest => (match rest with
    | v :: r => (match bObj S v with
      | some (K, ci, _) => bif Nat.beq K 113 then bCutL.all (fun ci => f (sVt k ci) (.inr (2, 100 + ci) :: as) r) else (bif bIsC K then f (sVt k ci) (v :: as) r else false)
      | none => false)
    | _ => false))
  | .invokeinterface k _ => bPop (k - 3000) st [] (fun as rest => (match rest with
    | v :: r => (match bRef S v with
      | some K => bif Nat.blt 399 K && Nat.blt K 407 then aF (k - 2700) (fun k1 => f k1 (v :: as) r) else false
      | none => false)
    | _ => false))
  | _ => false
theorem bIsC_ci {K ci : Nat} {tys : List bTy} (h : bIsC K = true) (hg : bGam K = some (.inr (ci, tys))) : K = 100 + ci ∧ ci ∈ bCutL ∧ sGrp ci = 2 ∧ ci < 11 := by
  rcases bIsC_cases h with e | e | e | e | e | e | e <;> subst e <;> cases hg <;> exact ⟨rfl, by decide, rfl, by decide⟩
theorem b_itf {K p : Nat} (h1 : 399 < K) (h2 : K < 407) (h : p = 2000000 + (K - 400)) : 2000000 ≤ p ∧ p < 2000007 := by omega
theorem bCal_ok {ι : List Value} {h : sHp} {ins : Instr} {S : bS} {st : List bV} {ws : List Value} {f : Nat → List bV → List bV → Bool} (g : bCal ins S st f = true) (hH : bH h) (q : bmS ι h S) (hs : bmT1 ι h st ws) : ∃ k1 as rest was wrest, sCal sNA sOwn sVt ins ws h = some (k1, was, wrest) ∧ f k1 as rest = true ∧ bmT1 ι h as was ∧ bmT1 ι h rest wrest := by
  unfold bCal at g
  split at g
  · rename_i k
    obtain ⟨as, rest, k1, k2, k3, k4⟩ := bPop_ok _ _ _ _ [] _ g hs trivial
    rw [List.append_nil] at k3
    refine ⟨k, as, rest, _, _, ?_, k1, k3, k4⟩
    show (sPop (sNA k) ws).map _ = _
    unfold sPop
    rw [if_pos k2]; rfl
  · rename_i k
    obtain ⟨as, rest, k1, k2, k3, k4⟩ := bPop_ok _ _ _ _ [] _ g hs trivial
    rw [List.append_nil] at k3
    have e0 : sPop (sNA k) ws = some ((ws.take (sNA k)).reverse, ws.drop (sNA k)) := by
      unfold sPop
      rw [if_pos k2]
    generalize (ws.take (sNA k)).reverse = was at e0 k3
    generalize ws.drop (sNA k) = wr at e0 k4
    split at k1
    · rename_i v r
      replace k4 := bmT1_cons k4
      obtain ⟨w, s, rfl, hv, k4⟩ := k4
      split at k1
      · rename_i z hz
        obtain ⟨K, ci0, tys⟩ := z
        obtain ⟨p, ci, fs, rfl, h1, -⟩ := bObj_ok hz hH q hv
        refine ⟨k, _, _, .ref p :: was, s, ?_, k1, ⟨hv, k3⟩, k4⟩
        show (sPop (sNA k) ws).bind _ = _
        rw [e0, Option.bind_some]
        dsimp only
        rw [h1]
      · cases k1
    · cases k1
  · rename_i k
    cases hk : Nat.blt k 1000 with
    | true =>
      rw [hk] at g
      replace hk := aBl hk
      obtain ⟨as, rest, k1, k2, k3, k4⟩ := bPop_ok _ _ _ _ [] _ g hs trivial
      rw [List.append_nil] at k3
      have e0 : sPop (sNA k) ws = some ((ws.take (sNA k)).reverse, ws.drop (sNA k)) := by
        unfold sPop
        rw [if_pos k2]
      generalize (ws.take (sNA k)).reverse = was at e0 k3
      generalize ws.drop (sNA k) = wr at e0 k4
      split at k1
      · rename_i v r
        replace k4 := bmT1_cons k4
        obtain ⟨w, s, rfl, hv, k4⟩ := k4
        split at k1
        · rename_i K ci0 tys hz
          obtain ⟨p, ci, fs, rfl, h1, h2, h3, -⟩ := bObj_ok hz hH q hv
          replace k1 := b_bif k1
          obtain ⟨k5, k1⟩ := k1
          replace k5 := aBa k5
          obtain ⟨k5, k6⟩ := k5
          replace k6 := aBl k6
          have e1 := h3 (by omega)
          subst e1
          refine ⟨k, _, _, .ref p :: was, s, ?_, k1, ⟨hv, k3⟩, k4⟩
          show (if k < 1000 then (sPop (sNA k) ws).bind _ else _) = _
          rw [if_pos hk, e0, Option.bind_some]
          dsimp only
          rw [h1]
          dsimp only
          rw [if_pos (aBt k5)]
        · cases k1
      · cases k1
    | false =>
      rw [hk] at g
      have hk : ¬ k < 1000 := fun z => by
        rw [show Nat.blt k 1000 = true from Nat.ble_eq_true_of_le z] at hk
        cases hk
      obtain ⟨as, rest, k1, k2, k3, k4⟩ := bPop_ok _ _ _ _ [] _ g hs trivial
      rw [List.append_nil] at k3
      have e0 : sPop (sVt k 100) ws = some ((ws.take (sVt k 100)).reverse, ws.drop (sVt k 100)) := by
        unfold sPop
        rw [if_pos k2]
      generalize (ws.take (sVt k 100)).reverse = was at e0 k3
      generalize ws.drop (sVt k 100) = wr at e0 k4
      split at k1
      · rename_i v r
        replace k4 := bmT1_cons k4
        obtain ⟨w, s, rfl, hv, k4⟩ := k4
        split at k1
        · rename_i K ci0 tys hz
          obtain ⟨p, ci, fs, rfl, h1, h2, h3, -, -, h7, h8⟩ := bObj_ok hz hH q hv
          have fin : ∀ (hc : sGrp ci = 2 ∧ ci < 11), sCal sNA sOwn sVt (.invokevirtual k) ws h = some (sVt k ci, .ref p :: was, s) := by
            intro hc
            show (if k < 1000 then _ else (sPop (sVt k 100) ws).bind _) = _
            rw [if_neg hk, e0, Option.bind_some]
            dsimp only
            rw [h1]
            dsimp only
            rw [if_pos hc]
          cases hK : Nat.beq K 113 with
          | true =>
            rw [hK] at k1
            have e := aBt hK
            subst e
            dsimp only [cond] at k1
            rcases bKK_cases h8 with e | ⟨-, e⟩
            · rw [e] at h7
              have : bGam 113 = none := rfl
              rw [this] at h7
              cases h7
            · obtain ⟨c1, c2, c3, c4⟩ := bIsC_ci e h7
              refine ⟨sVt k ci, _, _, _, _, fin ⟨c3, c4⟩, List.all_eq_true.mp k1 ci c2, ⟨⟨p, rfl, Or.inl ⟨_, h1, ?_⟩⟩, k3⟩, k4⟩
              unfold bKK
              rw [c1, aBq, decide_eq_true rfl]; rfl
          | false =>
            rw [hK] at k1
            dsimp only [cond] at k1
            have hK : K ≠ 113 := by
              rw [aBq] at hK
              exact of_decide_eq_false hK
            replace k1 := b_bif k1
            obtain ⟨k5, k1⟩ := k1
            have e1 := h3 hK
            subst e1
            have h9 : bKp p (.inr (ci, fs)) = K := by
              rcases bKK_cases h8 with e | ⟨e, -⟩
              · exact e
              · exact absurd e hK
            rw [h9] at h7
            obtain ⟨c1, c2, c3, c4⟩ := bIsC_ci k5 h7
            exact ⟨sVt k ci, _, _, _, _, fin ⟨c3, c4⟩, k1, ⟨hv, k3⟩, k4⟩
        · cases k1
      · cases k1
  · rename_i k cnt
    obtain ⟨as, rest, k1, k2, k3, k4⟩ := bPop_ok _ _ _ _ [] _ g hs trivial
    rw [List.append_nil] at k3
    have e0 : sPop (k - 3000) ws = some ((ws.take (k - 3000)).reverse, ws.drop (k - 3000)) := by
      unfold sPop
      rw [if_pos k2]
    generalize (ws.take (k - 3000)).reverse = was at e0 k3
    generalize ws.drop (k - 3000) = wr at e0 k4
    split at k1
    · rename_i v r
      replace k4 := bmT1_cons k4
      obtain ⟨w, s, rfl, hv, k4⟩ := k4
      split at k1
      · rename_i K hK
        obtain ⟨p, rfl, hp⟩ := bRef_ok hK q hv
        obtain ⟨k5, k1⟩ := b_bif k1
        obtain ⟨k5, k6⟩ := aBa k5
        have k5 := aBl k5
        have k6 := aBl k6
        rw [aF_eq] at k1
        have hpp : p = 2000000 + (K - 400) := by
          rcases hp with ⟨c, h1, h2⟩ | ⟨e, -⟩ | ⟨-, e⟩
          · obtain ⟨ct, h3, h4⟩ := hH.2.1 p c h1
            rcases bKK_cases h2 with e | ⟨e, -⟩
            · rw [e] at h3
              have := bGam_lt h3
              omega
            · omega
          · omega
          · exact e
        refine ⟨k - 2700, _, _, .ref p :: was, s, ?_, k1, ⟨hv, k3⟩, k4⟩
        unfold sCal
        dsimp only
        rw [e0, Option.bind_some]
        dsimp only
        exact if_pos (b_itf k5 k6 hpp)
      · cases k1
    · cases k1
  · cases g
