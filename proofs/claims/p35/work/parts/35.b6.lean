/-! ===== the second executor: what a method keeps to, and the run ===== -/
/-- method, depth, its arguments, what it finds, what it may write, how many cells it makes, its answers with what it leaves -/
abbrev bCn : Type := Nat × Nat × List bTy × List (Nat × bTy) × Nat × Nat × List (Option bTy × List (Nat × bTy))
def bTl (h : sHp) : List bTy → List Value → Prop
  | [], [] => True
  | t :: r, v :: s => bT h t v ∧ bTl h r s
  | _, _ => False
def bOv1 (h : sHp) (e : Nat × bTy) : Prop := bOne (e.1 / 64) = true ∧ ∃ (ci : Nat) (fs : List Value) (w : Value), h[e.1 / 64]? = some (.inr (ci, fs)) ∧ fs[e.1 % 64]? = some w ∧ bT h e.2 w
def bOv (h : sHp) (l : List (Nat × bTy)) : Prop := ∀ e ∈ l, bOv1 h e
def bRs (h : sHp) (t : Option bTy) (r : Option Value) : Prop := match t with
  | none => r = none
  | some t => ∃ v, r = some v ∧ bT h t v
def bPs (h : sHp) (ps : List (Option bTy × List (Nat × bTy))) (r : Option Value) : Prop := ∃ e ∈ ps, bRs h e.1 r ∧ bOv h e.2
def bEn (c : bCn) (r : Option Value) (h h' : sHp) : Prop := bH h' ∧ bFr c.2.2.2.2.1 c.2.2.2.2.2.1 h h' ∧ bPs h' c.2.2.2.2.2.2 r
def bHolds (c : bCn) : Prop := ∀ (h : sHp) (vs : List Value), bH h → bTl h c.2.2.1 vs → bOv h c.2.2.2.1 → sDo c.2.1 c.1 vs h (fun r h' => bEn c r h h')
def bFiL (S : bS) : List bV → List bTy → Bool
  | [], ts => (match ts with
    | [] => true
    | _ => false)
  | v :: r, ts => (match ts with
    | t :: ts1 => bFit S v t && bFiL S r ts1
    | [] => false)
theorem bFiL_ok {ι : List Value} {h : sHp} {S : bS} (q : bmS ι h S) : ∀ {st : List bV} {ts : List bTy} {ws : List Value}, bFiL S st ts = true → bmT1 ι h st ws → bTl h ts ws := by
  intro st
  induction st with
  | nil =>
    intro ts ws g hs
    rw [bmT1_nil hs]
    cases ts with
    | nil => trivial
    | cons t r => cases g
  | cons v r ih =>
    intro ts ws g hs
    obtain ⟨w, s, rfl, hv, hs1⟩ := bmT1_cons hs
    cases ts with
    | nil => cases g
    | cons t ts1 =>
      replace g := aBa g
      obtain ⟨g1, g2⟩ := g
      exact ⟨bFit_ok g1 q hv, ih g2 hs1⟩
def bOvF (S : bS) (l : List (Nat × bTy)) : Bool := l.all (fun e => match bOf e.1 S.2.2.2.2.2.1 with
  | some v => bFit S v e.2
  | none => false)
theorem bOvF_ok {ι : List Value} {h : sHp} {S : bS} {l : List (Nat × bTy)} (g : bOvF S l = true) (q : bmS ι h S) : bOv h l := by
  intro e he
  have g1 := List.all_eq_true.mp g e he
  split at g1
  · rename_i v hv
    obtain ⟨h0, ci, fs, w, h1, h2, h3⟩ := q.2.2.2.2.1 _ (bOf_mem hv)
    exact ⟨h0, ci, fs, w, h1, h2, bFit_ok g1 q h3⟩
  · cases g1
def bFnd : List bCn → Nat → Nat → List bV → bS → Option bCn
  | [], _, _, _, _ => none
  | c :: r, k, d, as, S => bif Nat.beq c.1 k && (Nat.ble c.2.1 d && (bFiL S as c.2.2.1 && bOvF S c.2.2.2.1)) then some c else bFnd r k d as S
theorem bFnd_ok {ι : List Value} {h : sHp} {S : bS} {k d : Nat} {as : List bV} {ws : List Value} {c : bCn} (q : bmS ι h S) (hs : bmT1 ι h as ws) : ∀ {T : List bCn}, bFnd T k d as S = some c → c ∈ T ∧ c.1 = k ∧ c.2.1 ≤ d ∧ bTl h c.2.2.1 ws ∧ bOv h c.2.2.2.1 := by
  intro T
  induction T with
  | nil => intro g; cases g
  | cons c0 r ih =>
    intro g
    unfold bFnd at g
    cases hb : (Nat.beq c0.1 k && (Nat.ble c0.2.1 d && (bFiL S as c0.2.2.1 && bOvF S c0.2.2.2.1))) with
    | true =>
      rw [hb] at g
      cases g
      replace hb := aBa hb
      obtain ⟨g1, g2⟩ := hb
      replace g2 := aBa g2
      obtain ⟨g2, g3⟩ := g2
      replace g3 := aBa g3
      obtain ⟨g3, g4⟩ := g3
      exact ⟨List.mem_cons_self, aBt g1, Nat.le_of_ble_eq_true g2, bFiL_ok q g3 hs, bOvF_ok g4 q⟩
    | false =>
      rw [hb] at g
      obtain ⟨h1, h2⟩ := ih g
      exact ⟨List.mem_cons_of_mem _ h1, h2⟩
/-- what is known anew of some cells -/
def bMkO : List (Nat × bTy) → bS → (bS → Bool) → Bool
  | [], S, f => f S
  | e :: r, S, f => bMk e.2 S (fun S1 v => match S1 with
    | (n, g, G, D, N, O, A) => bMkO r (n, g, G, D, N, (e.1, v) :: O, A) f)
theorem bMkO_ok {h : sHp} : ∀ (l : List (Nat × bTy)) {ι : List Value} {S : bS} {f : bS → Bool}, bMkO l S f = true → bmS ι h S → bOv h l → ∃ ι' S', f S' = true ∧ bLe ι ι' ∧ bmS ι' h S' ∧ S'.2.1 = S.2.1 := by
  intro l
  induction l with
  | nil => intro ι S f g q _; exact ⟨ι, S, g, bLe_refl ι, q, rfl⟩
  | cons e r ih =>
    intro ι S f g q ho
    obtain ⟨h0, ci, fs, w, h1, h2, h3⟩ := ho e List.mem_cons_self
    obtain ⟨ι1, S1, v, g1, g2, g3, g4, g5⟩ := bMk_ok g q h3
    obtain ⟨n, g0, G, D, N, O, A⟩ := S1
    obtain ⟨ι2, S2, k1, k2, k3, k4⟩ := ih (S := (n, g0, G, D, N, (e.1, v) :: O, A)) g1 ⟨g3.1, g3.2.1, g3.2.2.1, g3.2.2.2.1, fun e' he => by
      have he : e' ∈ (e.1, v) :: O := he
      rcases List.mem_cons.mp he with rfl | he
      · exact ⟨h0, ci, fs, w, h1, h2, g4⟩
      · exact g3.2.2.2.2.1 e' he, g3.2.2.2.2.2⟩ (fun e' he => ho e' (List.mem_cons_of_mem _ he))
    exact ⟨ι2, S2, k1, bLe_trans g2 k2, k3, k4.trans g5⟩
def bUse (c : bCn) (S : bS) (f : Option bV → bS → Bool) : Bool := match S with
  | (n, g, G, D, N, O, A) => aF (g + c.2.2.2.2.2.1) fun g1 => bFil (fun e => !(c.2.2.2.2.1.testBit e.1)) O fun O1 => bFil (fun e => !(c.2.2.2.2.1.testBit (e.1 * 64))) A fun A1 => c.2.2.2.2.2.2.all (fun po => bMkO po.2 (n, g1, G, D, N, O1, A1) (fun S1 => match po.1 with
    | none => f none S1
    | some t => bMk t S1 (fun S2 v => f (some v) S2)))
theorem bUse_ok {c : bCn} {ι : List Value} {h h' : sHp} {S : bS} {f : Option bV → bS → Bool} {r : Option Value} (g : bUse c S f = true) (q : bmS ι h S) (hc : bEn c r h h') : ∃ ι' S' v, f v S' = true ∧ bLe ι ι' ∧ bmS ι' h' S' ∧ bmR ι' h' v r ∧ S'.2.1 = S.2.1 + c.2.2.2.2.2.1 := by
  obtain ⟨hH, hF, po, hpo, hr, ho⟩ := hc
  obtain ⟨n, g0, G, D, N, O, A⟩ := S
  unfold bUse at g
  dsimp only at g
  rw [aF_eq, bFil_eq, bFil_eq] at g
  have g1 := List.all_eq_true.mp g po hpo
  have hx := bEx_of hF
  have q1 : bmS ι h' (n, g0 + c.2.2.2.2.2.1, G, D, N, O.filter (fun e => !(c.2.2.2.2.1.testBit e.1)), A.filter (fun e => !(c.2.2.2.2.1.testBit (e.1 * 64)))) := by
    refine ⟨q.1, q.2.1, q.2.2.1, q.2.2.2.1, fun e he => ?_, fun e he => ?_⟩
    · obtain ⟨m1, m2⟩ := List.mem_filter.mp he
      rw [Bool.not_eq_true'] at m2
      obtain ⟨h0, ci, fs, w, h1, h2, h3⟩ := q.2.2.2.2.1 e m1
      obtain ⟨c', k1, k2⟩ := hF.2.2 _ _ h1
      rw [(bOne_k h0 _).2] at k2
      rcases c' with ⟨t, z⟩ | ⟨ci', fs'⟩
      · exact k2.elim
      · refine ⟨h0, ci', fs', w, k1, ?_, bmV_mono (bLe_refl ι) hx h3⟩
        rw [k2.2.2.1 (e.1 % 64) (by rw [show e.1 / 64 * 64 + e.1 % 64 = e.1 by omega]; exact m2)]
        exact h2
    · obtain ⟨m1, m2⟩ := List.mem_filter.mp he
      rw [Bool.not_eq_true'] at m2
      obtain ⟨h0, t, n1, f1, j, h1, h2, h3⟩ := q.2.2.2.2.2 e m1
      obtain ⟨c', k1, k2⟩ := hF.2.2 _ _ h1
      rw [(bOne_k h0 _).2] at k2
      rcases c' with ⟨t', n', d'⟩ | ⟨ci', fs'⟩
      · obtain ⟨e1, e2, e3⟩ := k2
        have e4 := e3 m2
        subst e1 e2 e4
        exact ⟨h0, _, _, f1, j, k1, h2, bmV_mono (bLe_refl ι) hx h3⟩
      · exact k2.elim
  obtain ⟨ι1, S1, k1, k2, k3, k4⟩ := bMkO_ok _ g1 q1 ho
  cases hp : po.1 with
  | none =>
    rw [hp] at k1 hr
    have e : r = none := hr
    subst e
    exact ⟨ι1, S1, none, k1, k2, k3, trivial, k4⟩
  | some t =>
    rw [hp] at k1 hr
    obtain ⟨v, rfl, hv⟩ := hr
    obtain ⟨ι2, S2, w, m1, m2, m3, m4, m5⟩ := bMk_ok k1 k3 hv
    exact ⟨ι2, S2, some w, m1, bLe_trans k2 m2, m3, m4, m5.trans k4⟩
/-! the run -/
abbrev bKt : Type := Option bV → bS → Bool
abbrev bRt : Type := Bool → Nat → Nat → sMt → Nat → bLo → List bV → bS → bKt → Bool
/-- a place of the script near the law's own counter -/
def bNr (D : List (Nat × Nat × Int)) (j : Nat) : Bool := match D with
  | [] => false
  | e :: r => bif Nat.beq e.1 j then Nat.beq e.2.1 0 && (decide (0 ≤ e.2.2) && decide (e.2.2 ≤ 5)) else bNr r j
def bScr (S : bS) (st : List bV) (f : bS → List bV → Bool) : Bool := match st with
  | .inl (.inl j) :: v :: r => (match v with
    | .inr (t, K) => bif (Nat.beq t 2 && (Nat.beq K 300 && Nat.blt S.2.1 100)) && (Nat.beq j 0 || bNr S.2.2.2.1 j) then bNew (-2147483648) 2147483647 S (fun S1 x => f S1 (.inl x :: r)) else false
    | _ => false)
  | _ => false
def bHp2 (b : Bool) (W : Nat) (ins : Instr) (S : bS) (st : List bV) (f : bS → List bV → Bool) : Bool := match b with
  | false => bHeap W ins S st f
  | true => (match ins with
    | .iaload => bScr S st f
    | .arraylength => false
    | ins => bHeap W ins S st f)
def bStep (c sp : Bool) (T : List bCn) (W : Nat) (K2 : Nat → bLo → List bV → bS → Bool) (R : bRt) : bRt := fun b d k q pc L st S K =>
  bif b && K2 pc L st S then true else (match aFt (mT q) pc with
    | none => false
    | some ins => (match sKnd ins with
      | 0 => bPure ins S st (fun S1 st1 => aF (pc + sLen ins) (fun p => R b d k q p L st1 S1 K))
      | 1 => bLoc ins S L st (fun S1 L1 st1 => aF (pc + sLen ins) (fun p => R b d k q p L1 st1 S1 K))
      | 2 => bHp2 (b && c) W ins S st (fun S1 st1 => aF (pc + sLen ins) (fun p => R b d k q p L st1 S1 K))
      | 3 => bJmp sp ins pc S st (fun p S1 st1 => R b d k q p L st1 S1 K)
      | 4 => bRet ins (mR q) S st (fun v => K v S)
      | 5 => bCal ins S st (fun k1 as rest => bif Nat.ble (bCa rest) 8 then (match bFnd T k1 d as S with
        | some cn => bif Nat.beq (cn.2.2.2.2.1 ||| W) W then bUse cn S (fun v S1 => aF (pc + 3) (fun p => R b d k q p L (v.toList ++ rest) S1 K)) else false
        | none => (match d with
          | d1 + 1 => (match aNth sMs k1 with
            | some q1 => bIni as (mN q1) (fun L1 => R false d1 k1 q1 0 L1 [] S (fun v S1 => aF (pc + 3) (fun p => R b d k q p L (v.toList ++ rest) S1 K)))
            | none => false)
          | 0 => false)) else false)
      | 6 => bif Nat.ble (bCa st) 10 then bSpc ins S st (fun S1 st1 => aF (pc + 3) (fun p => R b d k q p L st1 S1 K)) else false
      | _ => false))
def bRun (c sp : Bool) (T : List bCn) (W : Nat) (K2 : Nat → bLo → List bV → bS → Bool) : Nat → bRt
  | 0 => fun _ _ _ _ _ _ _ _ _ => false
  | n + 1 => bStep c sp T W K2 (bRun c sp T W K2 n)
def bQ (ι : List Value) (K : bKt) (h0 : sHp) (W : Nat) (h : sHp) (r : Option Value) (h' : sHp) : Prop := ∃ ι' S' v, K v S' = true ∧ bLe ι ι' ∧ bmS ι' h' S' ∧ bH h' ∧ bmR ι' h' v r ∧ bEx h h' ∧ bFr W S'.2.1 h0 h'
theorem bQ_mono {ι ι' : List Value} {K : bKt} {h0 : sHp} {W : Nat} {h h1 : sHp} (a : bLe ι ι') (b : bEx h h1) {r : Option Value} {h' : sHp} (q : bQ ι' K h0 W h1 r h') : bQ ι K h0 W h r h' := by
  obtain ⟨ι2, S', v, q1, q2, q3, q4, q5, q6, q7⟩ := q
  exact ⟨ι2, S', v, q1, bLe_trans a q2, q3, q4, q5, bEx_trans b q6, q7⟩
theorem bQb_mono {ι ι' : List Value} {K : bKt} {h0 : sHp} {W : Nat} {h h1 : sHp} {b : Bool} {Q0 : Option Value → sHp → Prop} (a : bLe ι ι') (e : bEx h h1) {r : Option Value} {h' : sHp} (q : aQb b Q0 (bQ ι' K h0 W h1) r h') : aQb b Q0 (bQ ι K h0 W h) r h' := by
  cases b with
  | true => exact q
  | false => exact bQ_mono a e q
/-- the script is long enough behind the law's own counter -/
def bHX (ι0 : List Value) (h0 : sHp) (X : sX) : Prop := ∃ (N : Nat) (xs : Nat → Int32) (x0 : Int32), X = some (N, xs) ∧ ι0[0]? = some (.int x0) ∧ 0 ≤ x0.toInt ∧ x0.toInt + 6 ≤ N ∧ h0.length ≤ 900000
def bHXc (ι0 : List Value) (h0 : sHp) (c : Bool) (X : sX) : Prop := (c = true → bHX ι0 h0 X) ∧ (c = false → X = none)
def bSnd (X : sX) (h0 : sHp) (W : Nat) (ι0 : List Value) (k0 d0 : Nat) (K0 : bKt) (Q0 : Option Value → sHp → Prop) (R : bRt) : Prop := ∀ (b : Bool) (d k : Nat) (q : sMt) (pc : Nat) (L : bLo) (st : List bV) (S : bS) (K : bKt), R b d k q pc L st S K = true → ∀ (ι : List Value) (h : sHp) (vL : sLo) (vst : List Value), sM k = some q → bLe ι0 ι → bmS ι h S → bmL ι h L vL → bmT1 ι h st vst → bH h → bFr W S.2.1 h0 h → (b = true → K = K0 ∧ d = d0 ∧ k = k0) → sGo (aXb X b) k d pc vL vst h (aQb b Q0 (bQ ι K h0 W h))
theorem bNr_ok {ι : List Value} {j : Nat} : ∀ {D : List (Nat × Nat × Int)}, bNr D j = true → bmD ι D → ∃ x y, ι[j]? = some (.int x) ∧ ι[0]? = some (.int y) ∧ y.toInt ≤ x.toInt ∧ x.toInt ≤ y.toInt + 5 := by
  intro D
  induction D with
  | nil => intro g; cases g
  | cons e r ih =>
    intro g hD
    unfold bNr at g
    cases hb : Nat.beq e.1 j with
    | true =>
      rw [hb] at g
      replace g := aBa g
      obtain ⟨g1, g2⟩ := g
      replace g2 := aBa g2
      obtain ⟨g2, g3⟩ := g2
      replace g2 := of_decide_eq_true g2
      replace g3 := of_decide_eq_true g3
      obtain ⟨x, y, h1, h2, h3⟩ := hD e List.mem_cons_self
      rw [aBt hb] at h1
      rw [aBt g1] at h2
      exact ⟨x, y, h1, h2, by omega, by omega⟩
    | false =>
      rw [hb] at g
      exact ih g (fun e he => hD e (List.mem_cons_of_mem _ he))
theorem bHp2_ok {ι0 ι : List Value} {X : sX} {k d pc : Nat} {L : sLo} {Q : Option Value → sHp → Prop} {b c : Bool} {W : Nat} {ins : Instr} {S : bS} {st : List bV} {ws : List Value} {h0 h : sHp} {f : bS → List bV → Bool} (HX : bHXc ι0 h0 c X) (hF : sFk k pc = some ins) (hk : sKnd ins = 2) (g : bHp2 (b && c) W ins S st f = true) (hle : bLe ι0 ι) (q : bmS ι h S) (hs : bmT1 ι h st ws) (hH : bH h) (hFr : bFr W S.2.1 h0 h)
    (kk : ∀ ι' S' st' ws' h', f S' st' = true → bLe ι ι' → bmS ι' h' S' → bmT1 ι' h' st' ws' → S'.2.1 = S.2.1 → bH h' → bFr W 0 h h' → sGo (aXb X b) k d (pc + sLen ins) L ws' h' Q) : sGo (aXb X b) k d pc L ws h Q := by
  have gen : ∀ (g1 : bHeap W ins S st f = true) (hn : sScr (aXb X b) ins ws = none), sGo (aXb X b) k d pc L ws h Q := by
    intro g1 hn
    obtain ⟨ι', S', st', ws', h', e, k1, k2, k3, k4, k5, k6, k7⟩ := bHeap_ok g1 hH q hs
    exact go_heap hF hk hn e (kk ι' S' st' ws' h' k1 k2 k3 k4 k5 k6 k7)
  cases hbc : (b && c) with
  | false =>
    rw [hbc] at g
    refine gen g ?_
    have e1 : aXb X b = none := by
      cases b with
      | false => rfl
      | true => exact HX.2 hbc
    rw [e1]; rfl
  | true =>
    rw [hbc] at g
    replace hbc := aBa hbc
    obtain ⟨rfl, rfl⟩ := hbc
    obtain ⟨N, xs, x0, rfl, hx0, hn0, hn6, hl0⟩ := HX.1 rfl
    unfold bHp2 at g
    dsimp only at g
    split at g
    · unfold bScr at g
      split at g
      · rename_i j v r
        replace hs := bmT1_cons hs
        obtain ⟨w, s1, rfl, hx, hs⟩ := hs
        replace hs := bmT1_cons hs
        obtain ⟨w2, s, rfl, hv, hs⟩ := hs
        obtain ⟨x, rfl, ha⟩ := hx
        split at g
        · rename_i t K
          replace g := b_bif g
          obtain ⟨g1, g⟩ := g
          replace g1 := aBa g1
          obtain ⟨g1, g2⟩ := g1
          replace g1 := aBa g1
          obtain ⟨g1, g3⟩ := g1
          replace g3 := aBa g3
          obtain ⟨g3, g4⟩ := g3
          have e1 := aBt g1
          have e2 := aBt g3
          have e4 := aBl g4
          subst e1 e2
          obtain ⟨p, rfl, hp⟩ := hv
          have hlen := hFr.2.1
          have hp1 : p = 1000000 := by
            rcases hp with ⟨c', k1, k2⟩ | ⟨-, e⟩ | ⟨e, -⟩
            · obtain ⟨ct, k3, k4⟩ := hH.2.1 p c' k1
              rcases bKK_cases k2 with e | ⟨e, -⟩
              · rw [e] at k3
                exact absurd (bGam_lt k3) (by decide)
              · cases e
            · exact e
            · omega
          subst hp1
          have hx' : ι[j]? = some (.int x) := ha
          have hb : x0.toInt ≤ x.toInt ∧ x.toInt ≤ x0.toInt + 5 := by
            rw [Bool.or_eq_true] at g2
            rcases g2 with g2 | g2
            · have e := aBt g2
              subst e
              have h2 := bLe_at hle hx0
              rw [hx'] at h2
              cases h2
              omega
            · obtain ⟨y, z, k1, k2, k3, k4⟩ := bNr_ok g2 q.2.2.1
              rw [hx'] at k1
              cases k1
              rw [bLe_at hle hx0] at k2
              cases k2
              exact ⟨k3, k4⟩
          have hin : ¬ (x < 0 ∨ N ≤ x.toNatClampNeg) := by
            have e : (x.toNatClampNeg : Int) = x.toInt := by
              show ((x.toInt.toNat : Nat) : Int) = x.toInt
              omega
            intro z
            rcases z with z | z
            · have := Int32.lt_iff_toInt_lt.mp z
              have e0 : (0 : Int32).toInt = 0 := rfl
              omega
            · omega
          obtain ⟨ι', S', a, k1, k2, k3, k4, k5⟩ := bNew_ok g q (aFull_ok (xs x.toNatClampNeg))
          refine go_scr (st1 := .int (xs x.toNatClampNeg) :: s) hF hk ?_ (kk ι' S' _ _ h k1 k2 k3 ⟨⟨_, rfl, k4⟩, bmT1_mono k2 (bEx_refl h) hs⟩ k5 hH (bFr_refl W h))
          show (if 1000000 = 1000000 ∧ ¬ (x < 0 ∨ N ≤ x.toNatClampNeg) then some (Value.int (xs x.toNatClampNeg) :: s) else none) = _
          exact if_pos ⟨rfl, hin⟩
        · cases g
      · cases g
    · cases g
    · rename_i n1 n2
      refine gen g ?_
      show sScr (some (N, xs)) ins ws = none
      unfold sScr
      dsimp only
      split
      · exact absurd rfl n2
      · exact absurd rfl n1
      · rfl
theorem bRest {ι : List Value} {h : sHp} {v : Option bV} {r : Option Value} {st : List bV} {ws : List Value} (hv : bmR ι h v r) (hs : bmT1 ι h st ws) : bmT1 ι h (v.toList ++ st) (r.toList ++ ws) := by
  cases v with
  | none =>
    cases r with
    | none => exact hs
    | some w => exact hv.elim
  | some v =>
    cases r with
    | none => exact hv.elim
    | some w => exact ⟨hv, hs⟩
theorem bStep_ok {X : sX} {h0 : sHp} {W : Nat} {ι0 : List Value} {k0 d0 : Nat} {K0 : bKt} {Q0 : Option Value → sHp → Prop} {c sp : Bool} {T : List bCn} {K2 : Nat → bLo → List bV → bS → Bool} {R : bRt} (HX : bHXc ι0 h0 c X) (HT : ∀ cn ∈ T, bHolds cn)
    (HK2 : ∀ (pc : Nat) (L : bLo) (st : List bV) (S : bS) (ι : List Value) (h : sHp) (vL : sLo) (vst : List Value), K2 pc L st S = true → bLe ι0 ι → bmS ι h S → bmL ι h L vL → bmT1 ι h st vst → bH h → bFr W S.2.1 h0 h → sGo X k0 d0 pc vL vst h Q0)
    (HK0 : ∀ (v : Option bV) (S : bS) (ι : List Value) (h : sHp) (r : Option Value), K0 v S = true → bLe ι0 ι → bmS ι h S → bH h → bmR ι h v r → bFr W S.2.1 h0 h → Q0 r h)
    (HR : bSnd X h0 W ι0 k0 d0 K0 Q0 R) : bSnd X h0 W ι0 k0 d0 K0 Q0 (bStep c sp T W K2 R) := by
  intro b d k q pc L st S K g ι h vL vst hq hle hS hL hs hH hFr hb
  unfold bStep at g
  cases hk2 : (b && K2 pc L st S) with
  | true =>
    replace hk2 := aBa hk2
    obtain ⟨rfl, b2⟩ := hk2
    obtain ⟨rfl, rfl, rfl⟩ := hb rfl
    exact HK2 pc L st S ι h vL vst b2 hle hS hL hs hH hFr
  | false =>
    rw [hk2] at g
    dsimp only [cond] at g
    split at g
    · cases g
    · rename_i ins hF
      have hF : sFk k pc = some ins := by
        unfold sFk
        rw [hq]
        show sFt q pc = _
        rw [← hF]
        exact (aFt_eq pc (mT q)).symm
      split at g
      · rename_i hk
        obtain ⟨ι', S', st', ws', ho, k1, k2, k3, k4, k5⟩ := bPure_ok g hS hs
        dsimp only at k1
        rw [aF_eq] at k1
        exact go_pure hF hk ho (sGo_mono (HR _ _ _ _ _ _ _ _ _ k1 ι' h vL ws' hq (bLe_trans hle k2) k3 (bmL_mono k2 (bEx_refl h) hL) k4 hH (by rw [k5]; exact hFr) hb) (fun r h' z => bQb_mono k2 (bEx_refl h) z))
      · rename_i hk
        obtain ⟨ι', S', L', st', vL', ws', ho, k1, k2, k3, k4, k5, k6⟩ := bLoc_ok g hS hL hs
        dsimp only at k1
        rw [aF_eq] at k1
        exact go_loc hF hk ho (sGo_mono (HR _ _ _ _ _ _ _ _ _ k1 ι' h vL' ws' hq (bLe_trans hle k2) k3 k4 k5 hH (by rw [k6]; exact hFr) hb) (fun r h' z => bQb_mono k2 (bEx_refl h) z))
      · rename_i hk
        refine bHp2_ok HX hF hk g hle hS hs hH hFr (fun ι' S' st' ws' h' k1 k2 k3 k4 k5 k6 k7 => ?_)
        rw [aF_eq] at k1
        have hx := bEx_of k7
        exact sGo_mono (HR _ _ _ _ _ _ _ _ _ k1 ι' h' vL ws' hq (bLe_trans hle k2) k3 (bmL_mono k2 hx hL) k4 k6 (by rw [k5]; exact bFr_trans hFr k7) hb) (fun r h'' z => bQb_mono k2 hx z)
      · rename_i hk
        obtain ⟨t, S', st', ws', ho, k1, k2, k3, k4⟩ := bJmp_ok g hS hs
        exact go_jmp hF hk ho (HR _ _ _ _ _ _ _ _ _ k1 ι h vL ws' hq hle k2 hL k3 hH (by rw [k4]; exact hFr) hb)
      · rename_i hk
        obtain ⟨v, r, ho, k1, k2⟩ := bRet_ok g hS hs
        have hrk : sRk k = some (mR q) := by
          unfold sRk
          rw [hq]; rfl
        refine go_ret hF hk hrk ho ?_
        cases b with
        | false => exact ⟨ι, S, v, k1, bLe_refl ι, hS, hH, k2, bEx_refl h, hFr⟩
        | true =>
          obtain ⟨rfl, -, -⟩ := hb rfl
          exact HK0 v S ι h r k1 hle hS hH k2 hFr
      · rename_i hk
        obtain ⟨k1, as, rest, was, wrest, hc, g1, ha, hr⟩ := bCal_ok g hH hS hs
        replace g1 := b_bif g1
        obtain ⟨g2, g1⟩ := g1
        have hcat : (wrest.map (fun v => v.category)).sum ≤ 8 := by
          rw [bCa_ok hr]
          exact Nat.le_of_ble_eq_true g2
        split at g1
        · rename_i cn hfn
          obtain ⟨hm, e1, e2, e3, e4⟩ := bFnd_ok hS ha hfn
          replace g1 := b_bif g1
          obtain ⟨g3, g1⟩ := g1
          have hD := HT cn hm h was hH e3 e4
          rw [e1] at hD
          refine go_call hF hk hc hcat (sDo_up e2 hD) ?_
          intro r h1 hen
          obtain ⟨ι', S', v, m1, m2, m3, m4, m5⟩ := bUse_ok g1 hS hen
          rw [aF_eq] at m1
          obtain ⟨hH1, hF1, -⟩ := hen
          have hx := bEx_of hF1
          refine sGo_mono (HR _ _ _ _ _ _ _ _ _ m1 ι' h1 vL _ hq (bLe_trans hle m2) m3 (bmL_mono m2 hx hL) (bRest m4 (bmT1_mono m2 hx hr)) hH1 ?_ hb) (fun r h'' z => bQb_mono m2 hx z)
          rw [m5]
          exact bFr_trans hFr (bFr_mono (bSb_of g3) (Nat.le_refl _) hF1)
        · clear HK2 HK0
          cases d with
          | zero => cases g1
          | succ d1 =>
            dsimp only at g1
            split at g1
            · rename_i q1 hq1
              rw [aNth_eq] at hq1
              obtain ⟨L1, n1, n2, n3⟩ := bIni_ok _ _ _ _ g1 ha
              have hi : sIni (mN q1) was = some (sIniA was ++ List.replicate (mN q1 - (sIniA was).length) none) := by
                unfold sIni
                rw [if_pos ⟨bmT1_nd ha, n2⟩]
              have hn : sNk k1 = some (mN q1) := by
                unfold sNk
                rw [show sM k1 = some q1 from hq1]; rfl
              refine go_call hF hk hc hcat (sDo_of hn hi (HR false d1 k1 q1 0 L1 [] S _ n1 ι h _ [] hq1 hle hS n3 trivial hH hFr (fun e => by cases e))) ?_
              rintro r h1 ⟨ι', S', v, m1, m2, m3, m4, m5, m6, m7⟩
              dsimp only at m1
              rw [aF_eq] at m1
              exact sGo_mono (HR _ _ _ _ _ _ _ _ _ m1 ι' h1 vL _ hq (bLe_trans hle m2) m3 (bmL_mono m2 m6 hL) (bRest m5 (bmT1_mono m2 m6 hr)) m4 m7 hb) (fun r h'' z => bQb_mono m2 m6 z)
            · cases g1
      · rename_i hk
        replace g := b_bif g
        obtain ⟨g2, g⟩ := g
        have hcat : (vst.map (fun v => v.category)).sum ≤ 10 := by
          rw [bCa_ok hs]
          exact Nat.le_of_ble_eq_true g2
        obtain ⟨ι', S', st', ws', ho, k1, k2, k3, k4, k5⟩ := bSpc_ok g hS hs
        dsimp only at k1
        rw [aF_eq] at k1
        exact go_spec hF hk hcat ho (sGo_mono (HR _ _ _ _ _ _ _ _ _ k1 ι' h vL ws' hq (bLe_trans hle k2) k3 (bmL_mono k2 (bEx_refl h) hL) k4 hH (by rw [k5]; exact hFr) hb) (fun r h' z => bQb_mono k2 (bEx_refl h) z))
      · cases g
theorem bRun_ok {X : sX} {h0 : sHp} {W : Nat} {ι0 : List Value} {k0 d0 : Nat} {K0 : bKt} {Q0 : Option Value → sHp → Prop} {c sp : Bool} {T : List bCn} {K2 : Nat → bLo → List bV → bS → Bool} (HX : bHXc ι0 h0 c X) (HT : ∀ cn ∈ T, bHolds cn)
    (HK2 : ∀ (pc : Nat) (L : bLo) (st : List bV) (S : bS) (ι : List Value) (h : sHp) (vL : sLo) (vst : List Value), K2 pc L st S = true → bLe ι0 ι → bmS ι h S → bmL ι h L vL → bmT1 ι h st vst → bH h → bFr W S.2.1 h0 h → sGo X k0 d0 pc vL vst h Q0)
    (HK0 : ∀ (v : Option bV) (S : bS) (ι : List Value) (h : sHp) (r : Option Value), K0 v S = true → bLe ι0 ι → bmS ι h S → bH h → bmR ι h v r → bFr W S.2.1 h0 h → Q0 r h) : ∀ n, bSnd X h0 W ι0 k0 d0 K0 Q0 (bRun c sp T W K2 n) := by
  intro n
  induction n with
  | zero => intro b d k q pc L st S K g; cases g
  | succ n ih => exact bStep_ok HX HT HK2 HK0 ih
