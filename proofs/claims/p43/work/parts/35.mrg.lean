section
/-! ===== the second executor: what a method keeps to, and the run ===== -/
/-- method, depth, its arguments, what it finds, what it may write, how many cells it makes, its answers with what it leaves -/
abbrev bCn : Type := Nat × Nat × List bTy × List (Nat × bTy) × Nat × Nat × List (Option bTy × List (Nat × bTy))
def bTl (h : sHp) : List bTy → List Value → Prop
  | [], [] => True
  | t :: r, v :: s => bT h t v ∧ bTl h r s
  | _, _ => False
def bOv1 (h : sHp) (e : Nat × bTy) : Prop := bOne (e.1 / 64) = true ∧ ∃ (ci : Nat) (fs : List Value) (w : Value), h[e.1 / 64]? = some (.inr (ci, fs)) ∧ fs[e.1 % 64]? = some w ∧ bT h e.2 w
def bOv (h : sHp) (l : List (Nat × bTy)) : Prop := ∀ e ∈ l, bOv1 h e
def bRs (h : sHp) (t : Option bTy) (r : Option Value) : Prop := match t with
  | none => r = none
  | some t => ∃ v, r = some v ∧ bT h t v
def bPs (h : sHp) (ps : List (Option bTy × List (Nat × bTy))) (r : Option Value) : Prop := ∃ e ∈ ps, bRs h e.1 r ∧ bOv h e.2
def bEn (c : bCn) (r : Option Value) (h h' : sHp) : Prop := bH h' ∧ bFr c.2.2.2.2.1 c.2.2.2.2.2.1 h h' ∧ bPs h' c.2.2.2.2.2.2 r
def bHolds (c : bCn) : Prop := ∀ (h : sHp) (vs : List Value), bH h → bTl h c.2.2.1 vs → bOv h c.2.2.2.1 → sDo c.2.1 c.1 vs h (fun r h' => bEn c r h h')
def bFiL (S : bS) : List bV → List bTy → Bool
  | [], ts => (match ts with
    | [] => true
    | _ => false)
  | v :: r, ts => (match ts with
    | t :: ts1 => bFit S v t && bFiL S r ts1
    | [] => false)
theorem bFiL_ok {ι : List Value} {h : sHp} {S : bS} (q : bmS ι h S) : ∀ {st : List bV} {ts : List bTy} {ws : List Value}, bFiL S st ts = true → bmT1 ι h st ws → bTl h ts ws := by
  intro st
  induction st with
  | nil =>
    intro ts ws g hs
    rw [bmT1_nil hs]
    cases ts with
    | nil => trivial
    | cons t r => cases g
  | cons v r ih =>
    intro ts ws g hs
    obtain ⟨w, s, rfl, hv, hs1⟩ := bmT1_cons hs
    cases ts with
    | nil => cases g
    | cons t ts1 =>
      replace g := aBa g
      obtain ⟨g1, g2⟩ := g
      exact ⟨bFit_ok g1 q hv, ih g2 hs1⟩
def bOvF (S : bS) (l : List (Nat × bTy)) : Bool := l.all (fun e => match bOf e.1 S.2.2.2.2.2.1 with
  | some v => bFit S v e.2
  | none => false)
theorem bOvF_ok {ι : List Value} {h : sHp} {S : bS} {l : List (Nat × bTy)} (g : bOvF S l = true) (q : bmS ι h S) : bOv h l := by
  intro e he
  have g1 := List.all_eq_true.mp g e he
  split at g1
  · rename_i v hv
    obtain ⟨h0, ci, fs, w, h1, h2, h3⟩ := q.2.2.2.2.1 _ (bOf_mem hv)
    exact ⟨h0, ci, fs, w, h1, h2, bFit_ok g1 q h3⟩
  · cases g1
def bFnd : List bCn → Nat → Nat → List bV → bS → Option bCn
  | [], _, _, _, _ => none
  | c :: r, k, d, as, S => bif Nat.beq c.1 k && (Nat.ble c.2.1 d && (bFiL S as c.2.2.1 && bOvF S c.2.2.2.1)) then some c else bFnd r k d as S
theorem bFnd_ok {ι : List Value} {h : sHp} {S : bS} {k d : Nat} {as : List bV} {ws : List Value} {c : bCn} (q : bmS ι h S) (hs : bmT1 ι h as ws) : ∀ {T : List bCn}, bFnd T k d as S = some c → c ∈ T ∧ c.1 = k ∧ c.2.1 ≤ d ∧ bTl h c.2.2.1 ws ∧ bOv h c.2.2.2.1 := by
  intro T
  induction T with
  | nil => intro g; cases g
  | cons c0 r ih =>
    intro g
    unfold bFnd at g
    cases hb : (Nat.beq c0.1 k && (Nat.ble c0.2.1 d && (bFiL S as c0.2.2.1 && bOvF S c0.2.2.2.1))) with
    | true =>
      rw [hb] at g
      cases g
      replace hb := aBa hb
      obtain ⟨g1, g2⟩ := hb
      replace g2 := aBa g2
      obtain ⟨g2, g3⟩ := g2
      replace g3 := aBa g3
      obtain ⟨g3, g4⟩ := g3
      exact ⟨List.mem_cons_self, aBt g1, Nat.le_of_ble_eq_true g2, bFiL_ok q g3 hs, bOvF_ok g4 q⟩
    | false =>
      rw [hb] at g
      obtain ⟨h1, h2⟩ := ih g
      exact ⟨List.mem_cons_of_mem _ h1, h2⟩
/-- what is known anew of some cells -/
def bMkO : List (Nat × bTy) → bS → (bS → Bool) → Bool
  | [], S, f => f S
  | e :: r, S, f => bMk e.2 S (fun S1 v => match S1 with
    | (n, g, G, D, N, O, A) => bMkO r (n, g, G, D, N, (e.1, v) :: O, A) f)
theorem bMkO_ok {h : sHp} : ∀ (l : List (Nat × bTy)) {ι : List Value} {S : bS} {f : bS → Bool}, bMkO l S f = true → bmS ι h S → bOv h l → ∃ ι' S', f S' = true ∧ bLe ι ι' ∧ bmS ι' h S' ∧ S'.2.1 = S.2.1 := by
  intro l
  induction l with
  | nil => intro ι S f g q _; exact ⟨ι, S, g, bLe_refl ι, q, rfl⟩
  | cons e r ih =>
    intro ι S f g q ho
    obtain ⟨h0, ci, fs, w, h1, h2, h3⟩ := ho e List.mem_cons_self
    obtain ⟨ι1, S1, v, g1, g2, g3, g4, g5⟩ := bMk_ok g q h3
    obtain ⟨n, g0, G, D, N, O, A⟩ := S1
    obtain ⟨ι2, S2, k1, k2, k3, k4⟩ := ih (S := (n, g0, G, D, N, (e.1, v) :: O, A)) g1 ⟨g3.1, g3.2.1, g3.2.2.1, g3.2.2.2.1, fun e' he => by
      have he : e' ∈ (e.1, v) :: O := he
      rcases List.mem_cons.mp he with rfl | he
      · exact ⟨h0, ci, fs, w, h1, h2, g4⟩
      · exact g3.2.2.2.2.1 e' he, g3.2.2.2.2.2⟩ (fun e' he => ho e' (List.mem_cons_of_mem _ he))
    exact ⟨ι2, S2, k1, bLe_trans g2 k2, k3, k4.trans g5⟩
def bUse (c : bCn) (S : bS) (f : Option bV → bS → Bool) : Bool := match S with
  | (n, g, G, D, N, O, A) => aF (g + c.2.2.2.2.2.1) fun g1 => bFil (fun e => !(c.2.2.2.2.1.testBit e.1)) O fun O1 => bFil (fun e => !(c.2.2.2.2.1.testBit (e.1 * 64))) A fun A1 => c.2.2.2.2.2.2.all (fun po => bMkO po.2 (n, g1, G, D, N, O1, A1) (fun S1 => match po.1 with
    | none => f none S1
    | some t => bMk t S1 (fun S2 v => f (some v) S2)))
theorem bUse_ok {c : bCn} {ι : List Value} {h h' : sHp} {S : bS} {f : Option bV → bS → Bool} {r : Option Value} (g : bUse c S f = true) (q : bmS ι h S) (hc : bEn c r h h') : ∃ ι' S' v, f v S' = true ∧ bLe ι ι' ∧ bmS ι' h' S' ∧ bmR ι' h' v r ∧ S'.2.1 = S.2.1 + c.2.2.2.2.2.1 := by
  obtain ⟨hH, hF, po, hpo, hr, ho⟩ := hc
  obtain ⟨n, g0, G, D, N, O, A⟩ := S
  unfold bUse at g
  dsimp only at g
  rw [aF_eq, bFil_eq, bFil_eq] at g
  have g1 := List.all_eq_true.mp g po hpo
  have hx := bEx_of hF
  have q1 : bmS ι h' (n, g0 + c.2.2.2.2.2.1, G, D, N, O.filter (fun e => !(c.2.2.2.2.1.testBit e.1)), A.filter (fun e => !(c.2.2.2.2.1.testBit (e.1 * 64)))) := by
    refine ⟨q.1, q.2.1, q.2.2.1, q.2.2.2.1, fun e he => ?_, fun e he => ?_⟩
    · obtain ⟨m1, m2⟩ := List.mem_filter.mp he
      rw [Bool.not_eq_true'] at m2
      obtain ⟨h0, ci, fs, w, h1, h2, h3⟩ := q.2.2.2.2.1 e m1
      obtain ⟨c', k1, k2⟩ := hF.2.2 _ _ h1
      rw [(bOne_k h0 _).2] at k2
      rcases c' with ⟨t, z⟩ | ⟨ci', fs'⟩
      · exact k2.elim
      · refine ⟨h0, ci', fs', w, k1, ?_, bmV_mono (bLe_refl ι) hx h3⟩
        rw [k2.2.2.1 (e.1 % 64) (by rw [show e.1 / 64 * 64 + e.1 % 64 = e.1 by omega]; exact m2)]
        exact h2
    · obtain ⟨m1, m2⟩ := List.mem_filter.mp he
      rw [Bool.not_eq_true'] at m2
      obtain ⟨h0, t, n1, f1, j, h1, h2, h3⟩ := q.2.2.2.2.2 e m1
      obtain ⟨c', k1, k2⟩ := hF.2.2 _ _ h1
      rw [(bOne_k h0 _).2] at k2
      rcases c' with ⟨t', n', d'⟩ | ⟨ci', fs'⟩
      · obtain ⟨e1, e2, e3⟩ := k2
        have e4 := e3 m2
        subst e1 e2 e4
        exact ⟨h0, _, _, f1, j, k1, h2, bmV_mono (bLe_refl ι) hx h3⟩
      · exact k2.elim
  obtain ⟨ι1, S1, k1, k2, k3, k4⟩ := bMkO_ok _ g1 q1 ho
  cases hp : po.1 with
  | none =>
    rw [hp] at k1 hr
    have e : r = none := hr
    subst e
    exact ⟨ι1, S1, none, k1, k2, k3, trivial, k4⟩
  | some t =>
    rw [hp] at k1 hr
    obtain ⟨v, rfl, hv⟩ := hr
    obtain ⟨ι2, S2, w, m1, m2, m3, m4, m5⟩ := bMk_ok k1 k3 hv
    exact ⟨ι2, S2, some w, m1, bLe_trans k2 m2, m3, m4, m5.trans k4⟩
/-! the run -/
abbrev bKt : Type := Option bV → bS → Bool
abbrev bRt : Type := Bool → Nat → Nat → sMt → Nat → bLo → List bV → bS → bKt → Bool
/-- a place of the script near the law's own counter -/
def bNr (D : List (Nat × Nat × Int)) (j : Nat) : Bool := match D with
  | [] => false
  | e :: r => bif Nat.beq e.1 j then Nat.beq e.2.1 0 && (decide (0 ≤ e.2.2) && decide (e.2.2 ≤ 5)) else bNr r j
def bScr (S : bS) (st : List bV) (f : bS → List bV → Bool) : Bool := match st with
  | .inl (.inl j) :: v :: r => (match v with
    | .inr (t, K) => bif (Nat.beq t 2 && (Nat.beq K 300 && Nat.blt S.2.1 100)) && (Nat.beq j 0 || bNr S.2.2.2.1 j) then bNew (-2147483648) 2147483647 S (fun S1 x => f S1 (.inl x :: r)) else false
    | _ => false)
  | _ => false
def bHp2 (b : Bool) (W : Nat) (ins : Instr) (S : bS) (st : List bV) (f : bS → List bV → Bool) : Bool := match b with
  | false => bHeap W ins S st f
  | true => (match ins with
    | .iaload => bScr S st f
    | .arraylength => false
    | ins => bHeap W ins S st f)
def bStep (c sp : Bool) (T : List bCn) (W : Nat) (K2 : Nat → bLo → List bV → bS → Bool) (R : bRt) : bRt := fun b d k q pc L st S K =>
  bif b && K2 pc L st S then true else (match aFt (mT q) pc with
    | none => false
    | some ins => (match sKnd ins with
      | 0 => bPure ins S st (fun S1 st1 => aF (pc + sLen ins) (fun p => R b d k q p L st1 S1 K))
      | 1 => bLoc ins S L st (fun S1 L1 st1 => aF (pc + sLen ins) (fun p => R b d k q p L1 st1 S1 K))
      | 2 => bHp2 (b && c) W ins S st (fun S1 st1 => aF (pc + sLen ins) (fun p => R b d k q p L st1 S1 K))
      | 3 => bJmp sp ins pc S st (fun p S1 st1 => R b d k q p L st1 S1 K)
      | 4 => bRet ins (mR q) S st (fun v => K v S)
      | 5 => bCal ins S st (fun k1 as rest => bif Nat.ble (bCa rest) 8 then (match bFnd T k1 d as S with
        | some cn => bif Nat.beq (cn.2.2.2.2.1 ||| W) W then bUse cn S (fun v S1 => aF (pc + 3) (fun p => R b d k q p L (v.toList ++ rest) S1 K)) else false
        | none => (match d with
          | d1 + 1 => (match aNth sMs k1 with
            | some q1 => bIni as (mN q1) (fun L1 => R false d1 k1 q1 0 L1 [] S (fun v S1 => aF (pc + 3) (fun p => R b d k q p L (v.toList ++ rest) S1 K)))
            | none => false)
          | 0 => false)) else false)
      | 6 => bif Nat.ble (bCa st) 10 then bSpc ins S st (fun S1 st1 => aF (pc + 3) (fun p => R b d k q p L st1 S1 K)) else false
      | _ => false))
def bRun (c sp : Bool) (T : List bCn) (W : Nat) (K2 : Nat → bLo → List bV → bS → Bool) : Nat → bRt
  | 0 => fun _ _ _ _ _ _ _ _ _ => false
  | n + 1 => bStep c sp T W K2 (bRun c sp T W K2 n)
def bQ (ι : List Value) (K : bKt) (h0 : sHp) (W : Nat) (h : sHp) (r : Option Value) (h' : sHp) : Prop := ∃ ι' S' v, K v S' = true ∧ bLe ι ι' ∧ bmS ι' h' S' ∧ bH h' ∧ bmR ι' h' v r ∧ bEx h h' ∧ bFr W S'.2.1 h0 h'
theorem bQ_mono {ι ι' : List Value} {K : bKt} {h0 : sHp} {W : Nat} {h h1 : sHp} (a : bLe ι ι') (b : bEx h h1) {r : Option Value} {h' : sHp} (q : bQ ι' K h0 W h1 r h') : bQ ι K h0 W h r h' := by
  obtain ⟨ι2, S', v, q1, q2, q3, q4, q5, q6, q7⟩ := q
  exact ⟨ι2, S', v, q1, bLe_trans a q2, q3, q4, q5, bEx_trans b q6, q7⟩
theorem bQb_mono {ι ι' : List Value} {K : bKt} {h0 : sHp} {W : Nat} {h h1 : sHp} {b : Bool} {Q0 : Option Value → sHp → Prop} (a : bLe ι ι') (e : bEx h h1) {r : Option Value} {h' : sHp} (q : aQb b Q0 (bQ ι' K h0 W h1) r h') : aQb b Q0 (bQ ι K h0 W h) r h' := by
  cases b with
  | true => exact q
  | false => exact bQ_mono a e q
/-- the script is long enough behind the law's own counter -/
def bHX (ι0 : List Value) (h0 : sHp) (X : sX) : Prop := ∃ (N : Nat) (xs : Nat → Int32) (x0 : Int32), X = some (N, xs) ∧ ι0[0]? = some (.int x0) ∧ 0 ≤ x0.toInt ∧ x0.toInt + 6 ≤ N ∧ h0.length ≤ 900000
def bHXc (ι0 : List Value) (h0 : sHp) (c : Bool) (X : sX) : Prop := (c = true → bHX ι0 h0 X) ∧ (c = false → X = none)
def bSnd (X : sX) (h0 : sHp) (W : Nat) (ι0 : List Value) (k0 d0 : Nat) (K0 : bKt) (Q0 : Option Value → sHp → Prop) (R : bRt) : Prop := ∀ (b : Bool) (d k : Nat) (q : sMt) (pc : Nat) (L : bLo) (st : List bV) (S : bS) (K : bKt), R b d k q pc L st S K = true → ∀ (ι : List Value) (h : sHp) (vL : sLo) (vst : List Value), sM k = some q → bLe ι0 ι → bmS ι h S → bmL ι h L vL → bmT1 ι h st vst → bH h → bFr W S.2.1 h0 h → (b = true → K = K0 ∧ d = d0 ∧ k = k0) → sGo (aXb X b) k d pc vL vst h (aQb b Q0 (bQ ι K h0 W h))
theorem bNr_ok {ι : List Value} {j : Nat} : ∀ {D : List (Nat × Nat × Int)}, bNr D j = true → bmD ι D → ∃ x y, ι[j]? = some (.int x) ∧ ι[0]? = some (.int y) ∧ y.toInt ≤ x.toInt ∧ x.toInt ≤ y.toInt + 5 := by
  intro D
  induction D with
  | nil => intro g; cases g
  | cons e r ih =>
    intro g hD
    unfold bNr at g
    cases hb : Nat.beq e.1 j with
    | true =>
      rw [hb] at g
      replace g := aBa g
      obtain ⟨g1, g2⟩ := g
      replace g2 := aBa g2
      obtain ⟨g2, g3⟩ := g2
      replace g2 := of_decide_eq_true g2
      replace g3 := of_decide_eq_true g3
      obtain ⟨x, y, h1, h2, h3⟩ := hD e List.mem_cons_self
      rw [aBt hb] at h1
      rw [aBt g1] at h2
      exact ⟨x, y, h1, h2, by omega, by omega⟩
    | false =>
      rw [hb] at g
      exact ih g (fun e he => hD e (List.mem_cons_of_mem _ he))
theorem bHp2_ok {ι0 ι : List Value} {X : sX} {k d pc : Nat} {L : sLo} {Q : Option Value → sHp → Prop} {b c : Bool} {W : Nat} {ins : Instr} {S : bS} {st : List bV} {ws : List Value} {h0 h : sHp} {f : bS → List bV → Bool} (HX : bHXc ι0 h0 c X) (hF : sFk k pc = some ins) (hk : sKnd ins = 2) (g : bHp2 (b && c) W ins S st f = true) (hle : bLe ι0 ι) (q : bmS ι h S) (hs : bmT1 ι h st ws) (hH : bH h) (hFr : bFr W S.2.1 h0 h)
    (kk : ∀ ι' S' st' ws' h', f S' st' = true → bLe ι ι' → bmS ι' h' S' → bmT1 ι' h' st' ws' → S'.2.1 = S.2.1 → bH h' → bFr W 0 h h' → sGo (aXb X b) k d (pc + sLen ins) L ws' h' Q) : sGo (aXb X b) k d pc L ws h Q := by
  have gen : ∀ (g1 : bHeap W ins S st f = true) (hn : sScr (aXb X b) ins ws = none), sGo (aXb X b) k d pc L ws h Q := by
    intro g1 hn
    obtain ⟨ι', S', st', ws', h', e, k1, k2, k3, k4, k5, k6, k7⟩ := bHeap_ok g1 hH q hs
    exact go_heap hF hk hn e (kk ι' S' st' ws' h' k1 k2 k3 k4 k5 k6 k7)
  cases hbc : (b && c) with
  | false =>
    rw [hbc] at g
    refine gen g ?_
    have e1 : aXb X b = none := by
      cases b with
      | false => rfl
      | true => exact HX.2 hbc
    rw [e1]; rfl
  | true =>
    rw [hbc] at g
    replace hbc := aBa hbc
    obtain ⟨rfl, rfl⟩ := hbc
    obtain ⟨N, xs, x0, rfl, hx0, hn0, hn6, hl0⟩ := HX.1 rfl
    unfold bHp2 at g
    dsimp only at g
    split at g
    · unfold bScr at g
      split at g
      · rename_i j v r
        replace hs := bmT1_cons hs
        obtain ⟨w, s1, rfl, hx, hs⟩ := hs
        replace hs := bmT1_cons hs
        obtain ⟨w2, s, rfl, hv, hs⟩ := hs
        obtain ⟨x, rfl, ha⟩ := hx
        split at g
        · rename_i t K
          replace g := b_bif g
          obtain ⟨g1, g⟩ := g
          replace g1 := aBa g1
          obtain ⟨g1, g2⟩ := g1
          replace g1 := aBa g1
          obtain ⟨g1, g3⟩ := g1
          replace g3 := aBa g3
          obtain ⟨g3, g4⟩ := g3
          have e1 := aBt g1
          have e2 := aBt g3
          have e4 := aBl g4
          subst e1 e2
          obtain ⟨p, rfl, hp⟩ := hv
          have hlen := hFr.2.1
          have hp1 : p = 1000000 := by
            rcases hp with ⟨c', k1, k2⟩ | ⟨-, e⟩ | ⟨e, -⟩
            · obtain ⟨ct, k3, k4⟩ := hH.2.1 p c' k1
              rcases bKK_cases k2 with e | ⟨e, -⟩
              · rw [e] at k3
                exact absurd (bGam_lt k3) (by decide)
              · cases e
            · exact e
            · omega
          subst hp1
          have hx' : ι[j]? = some (.int x) := ha
          have hb : x0.toInt ≤ x.toInt ∧ x.toInt ≤ x0.toInt + 5 := by
            rw [Bool.or_eq_true] at g2
            rcases g2 with g2 | g2
            · have e := aBt g2
              subst e
              have h2 := bLe_at hle hx0
              rw [hx'] at h2
              cases h2
              omega
            · obtain ⟨y, z, k1, k2, k3, k4⟩ := bNr_ok g2 q.2.2.1
              rw [hx'] at k1
              cases k1
              rw [bLe_at hle hx0] at k2
              cases k2
              exact ⟨k3, k4⟩
          have hin : ¬ (x < 0 ∨ N ≤ x.toNatClampNeg) := by
            have e : (x.toNatClampNeg : Int) = x.toInt := by
              show ((x.toInt.toNat : Nat) : Int) = x.toInt
              omega
            intro z
            rcases z with z | z
            · have := Int32.lt_iff_toInt_lt.mp z
              have e0 : (0 : Int32).toInt = 0 := rfl
              omega
            · omega
          obtain ⟨ι', S', a, k1, k2, k3, k4, k5⟩ := bNew_ok g q (aFull_ok (xs x.toNatClampNeg))
          refine go_scr (st1 := .int (xs x.toNatClampNeg) :: s) hF hk ?_ (kk ι' S' _ _ h k1 k2 k3 ⟨⟨_, rfl, k4⟩, bmT1_mono k2 (bEx_refl h) hs⟩ k5 hH (bFr_refl W h))
          show (if 1000000 = 1000000 ∧ ¬ (x < 0 ∨ N ≤ x.toNatClampNeg) then some (Value.int (xs x.toNatClampNeg) :: s) else none) = _
          exact if_pos ⟨rfl, hin⟩
        · cases g
      · cases g
    · cases g
    · rename_i n1 n2
      refine gen g ?_
      show sScr (some (N, xs)) ins ws = none
      unfold sScr
      dsimp only
      split
      · exact absurd rfl n2
      · exact absurd rfl n1
      · rfl
theorem bRest {ι : List Value} {h : sHp} {v : Option bV} {r : Option Value} {st : List bV} {ws : List Value} (hv : bmR ι h v r) (hs : bmT1 ι h st ws) : bmT1 ι h (v.toList ++ st) (r.toList ++ ws) := by
  cases v with
  | none =>
    cases r with
    | none => exact hs
    | some w => exact hv.elim
  | some v =>
    cases r with
    | none => exact hv.elim
    | some w => exact ⟨hv, hs⟩
theorem bStep_ok {X : sX} {h0 : sHp} {W : Nat} {ι0 : List Value} {k0 d0 : Nat} {K0 : bKt} {Q0 : Option Value → sHp → Prop} {c sp : Bool} {T : List bCn} {K2 : Nat → bLo → List bV → bS → Bool} {R : bRt} (HX : bHXc ι0 h0 c X) (HT : ∀ cn ∈ T, bHolds cn)
    (HK2 : ∀ (pc : Nat) (L : bLo) (st : List bV) (S : bS) (ι : List Value) (h : sHp) (vL : sLo) (vst : List Value), K2 pc L st S = true → bLe ι0 ι → bmS ι h S → bmL ι h L vL → bmT1 ι h st vst → bH h → bFr W S.2.1 h0 h → sGo X k0 d0 pc vL vst h Q0)
    (HK0 : ∀ (v : Option bV) (S : bS) (ι : List Value) (h : sHp) (r : Option Value), K0 v S = true → bLe ι0 ι → bmS ι h S → bH h → bmR ι h v r → bFr W S.2.1 h0 h → Q0 r h)
    (HR : bSnd X h0 W ι0 k0 d0 K0 Q0 R) : bSnd X h0 W ι0 k0 d0 K0 Q0 (bStep c sp T W K2 R) := by
  intro b d k q pc L st S K g ι h vL vst hq hle hS hL hs hH hFr hb
  unfold bStep at g
  cases hk2 : (b && K2 pc L st S) with
  | true =>
    replace hk2 := aBa hk2
    obtain ⟨rfl, b2⟩ := hk2
    obtain ⟨rfl, rfl, rfl⟩ := hb rfl
    exact HK2 pc L st S ι h vL vst b2 hle hS hL hs hH hFr
  | false =>
    rw [hk2] at g
    dsimp only [cond] at g
    split at g
    · cases g
    · rename_i ins hF
      have hF : sFk k pc = some ins := by
        unfold sFk
        rw [hq]
        show sFt q pc = _
        rw [← hF]
        exact (aFt_eq pc (mT q)).symm
      split at g
      · rename_i hk
        obtain ⟨ι', S', st', ws', ho, k1, k2, k3, k4, k5⟩ := bPure_ok g hS hs
        dsimp only at k1
        rw [aF_eq] at k1
        exact go_pure hF hk ho (sGo_mono (HR _ _ _ _ _ _ _ _ _ k1 ι' h vL ws' hq (bLe_trans hle k2) k3 (bmL_mono k2 (bEx_refl h) hL) k4 hH (by rw [k5]; exact hFr) hb) (fun r h' z => bQb_mono k2 (bEx_refl h) z))
      · rename_i hk
        obtain ⟨ι', S', L', st', vL', ws', ho, k1, k2, k3, k4, k5, k6⟩ := bLoc_ok g hS hL hs
        dsimp only at k1
        rw [aF_eq] at k1
        exact go_loc hF hk ho (sGo_mono (HR _ _ _ _ _ _ _ _ _ k1 ι' h vL' ws' hq (bLe_trans hle k2) k3 k4 k5 hH (by rw [k6]; exact hFr) hb) (fun r h' z => bQb_mono k2 (bEx_refl h) z))
      · rename_i hk
        refine bHp2_ok HX hF hk g hle hS hs hH hFr (fun ι' S' st' ws' h' k1 k2 k3 k4 k5 k6 k7 => ?_)
        rw [aF_eq] at k1
        have hx := bEx_of k7
        exact sGo_mono (HR _ _ _ _ _ _ _ _ _ k1 ι' h' vL ws' hq (bLe_trans hle k2) k3 (bmL_mono k2 hx hL) k4 k6 (by rw [k5]; exact bFr_trans hFr k7) hb) (fun r h'' z => bQb_mono k2 hx z)
      · rename_i hk
        obtain ⟨t, S', st', ws', ho, k1, k2, k3, k4⟩ := bJmp_ok g hS hs
        exact go_jmp hF hk ho (HR _ _ _ _ _ _ _ _ _ k1 ι h vL ws' hq hle k2 hL k3 hH (by rw [k4]; exact hFr) hb)
      · rename_i hk
        obtain ⟨v, r, ho, k1, k2⟩ := bRet_ok g hS hs
        have hrk : sRk k = some (mR q) := by
          unfold sRk
          rw [hq]; rfl
        refine go_ret hF hk hrk ho ?_
        cases b with
        | false => exact ⟨ι, S, v, k1, bLe_refl ι, hS, hH, k2, bEx_refl h, hFr⟩
        | true =>
          obtain ⟨rfl, -, -⟩ := hb rfl
          exact HK0 v S ι h r k1 hle hS hH k2 hFr
      · rename_i hk
        obtain ⟨k1, as, rest, was, wrest, hc, g1, ha, hr⟩ := bCal_ok g hH hS hs
        replace g1 := b_bif g1
        obtain ⟨g2, g1⟩ := g1
        have hcat : (wrest.map (fun v => v.category)).sum ≤ 8 := by
          rw [bCa_ok hr]
          exact Nat.le_of_ble_eq_true g2
        split at g1
        · rename_i cn hfn
          obtain ⟨hm, e1, e2, e3, e4⟩ := bFnd_ok hS ha hfn
          replace g1 := b_bif g1
          obtain ⟨g3, g1⟩ := g1
          have hD := HT cn hm h was hH e3 e4
          rw [e1] at hD
          refine go_call hF hk hc hcat (sDo_up e2 hD) ?_
          intro r h1 hen
          obtain ⟨ι', S', v, m1, m2, m3, m4, m5⟩ := bUse_ok g1 hS hen
          rw [aF_eq] at m1
          obtain ⟨hH1, hF1, -⟩ := hen
          have hx := bEx_of hF1
          refine sGo_mono (HR _ _ _ _ _ _ _ _ _ m1 ι' h1 vL _ hq (bLe_trans hle m2) m3 (bmL_mono m2 hx hL) (bRest m4 (bmT1_mono m2 hx hr)) hH1 ?_ hb) (fun r h'' z => bQb_mono m2 hx z)
          rw [m5]
          exact bFr_trans hFr (bFr_mono (bSb_of g3) (Nat.le_refl _) hF1)
        · clear HK2 HK0
          cases d with
          | zero => cases g1
          | succ d1 =>
            dsimp only at g1
            split at g1
            · rename_i q1 hq1
              rw [aNth_eq] at hq1
              obtain ⟨L1, n1, n2, n3⟩ := bIni_ok _ _ _ _ g1 ha
              have hi : sIni (mN q1) was = some (sIniA was ++ List.replicate (mN q1 - (sIniA was).length) none) := by
                unfold sIni
                rw [if_pos ⟨bmT1_nd ha, n2⟩]
              have hn : sNk k1 = some (mN q1) := by
                unfold sNk
                rw [show sM k1 = some q1 from hq1]; rfl
              refine go_call hF hk hc hcat (sDo_of hn hi (HR false d1 k1 q1 0 L1 [] S _ n1 ι h _ [] hq1 hle hS n3 trivial hH hFr (fun e => by cases e))) ?_
              rintro r h1 ⟨ι', S', v, m1, m2, m3, m4, m5, m6, m7⟩
              dsimp only at m1
              rw [aF_eq] at m1
              exact sGo_mono (HR _ _ _ _ _ _ _ _ _ m1 ι' h1 vL _ hq (bLe_trans hle m2) m3 (bmL_mono m2 m6 hL) (bRest m5 (bmT1_mono m2 m6 hr)) m4 m7 hb) (fun r h'' z => bQb_mono m2 m6 z)
            · cases g1
      · rename_i hk
        replace g := b_bif g
        obtain ⟨g2, g⟩ := g
        have hcat : (vst.map (fun v => v.category)).sum ≤ 10 := by
          rw [bCa_ok hs]
          exact Nat.le_of_ble_eq_true g2
        obtain ⟨ι', S', st', ws', ho, k1, k2, k3, k4, k5⟩ := bSpc_ok g hS hs
        dsimp only at k1
        rw [aF_eq] at k1
        exact go_spec hF hk hcat ho (sGo_mono (HR _ _ _ _ _ _ _ _ _ k1 ι' h vL ws' hq (bLe_trans hle k2) k3 (bmL_mono k2 (bEx_refl h) hL) k4 hH (by rw [k5]; exact hFr) hb) (fun r h' z => bQb_mono k2 (bEx_refl h) z))
      · cases g
theorem bRun_ok {X : sX} {h0 : sHp} {W : Nat} {ι0 : List Value} {k0 d0 : Nat} {K0 : bKt} {Q0 : Option Value → sHp → Prop} {c sp : Bool} {T : List bCn} {K2 : Nat → bLo → List bV → bS → Bool} (HX : bHXc ι0 h0 c X) (HT : ∀ cn ∈ T, bHolds cn)
    (HK2 : ∀ (pc : Nat) (L : bLo) (st : List bV) (S : bS) (ι : List Value) (h : sHp) (vL : sLo) (vst : List Value), K2 pc L st S = true → bLe ι0 ι → bmS ι h S → bmL ι h L vL → bmT1 ι h st vst → bH h → bFr W S.2.1 h0 h → sGo X k0 d0 pc vL vst h Q0)
    (HK0 : ∀ (v : Option bV) (S : bS) (ι : List Value) (h : sHp) (r : Option Value), K0 v S = true → bLe ι0 ι → bmS ι h S → bH h → bmR ι h v r → bFr W S.2.1 h0 h → Q0 r h) : ∀ n, bSnd X h0 W ι0 k0 d0 K0 Q0 (bRun c sp T W K2 n) := by
  intro n
  induction n with
  | zero => intro b d k q pc L st S K g; cases g
  | succ n ih => exact bStep_ok HX HT HK2 HK0 ih
end
section
/-! ===== the second executor: loops ===== -/
/-- a place with an empty stack: locals, cells, what falls from round to round -/
abbrev bTp : Type := Nat × List (Option bTy) × List (Nat × bTy) × Int × List (Nat × Int)
def bTL (h : sHp) (ts : List (Option bTy)) (vL : sLo) : Prop := ts.length = vL.length ∧ ∀ (i : Nat) (t : bTy), ts[i]? = some (some t) → ∃ w : Value, vL[i]? = some (some w) ∧ bT h t w
def bMkL : List (Option bTy) → bS → (bLo → bS → Bool) → Bool
  | [], S, f => f [] S
  | o :: r, S, f => (match o with
    | none => bMkL r S (fun L S1 => f (none :: L) S1)
    | some t => bMk t S (fun S1 v => bMkL r S1 (fun L S2 => f (some v :: L) S2)))
theorem bMkL_ok {h : sHp} : ∀ (ts : List (Option bTy)) {ι : List Value} {S : bS} {f : bLo → bS → Bool} {vL : sLo}, bMkL ts S f = true → bmS ι h S → bTL h ts vL → ∃ ι' S' L, f L S' = true ∧ bLe ι ι' ∧ bmS ι' h S' ∧ bmL ι' h L vL ∧ S'.2.1 = S.2.1 := by
  intro ts
  induction ts with
  | nil =>
    intro ι S f vL g q ht
    refine ⟨ι, S, [], g, bLe_refl ι, q, ⟨ht.1, fun i v hv => by cases hv⟩, rfl⟩
  | cons o r ih =>
    intro ι S f vL g q ht
    cases vL with
    | nil => cases ht.1
    | cons w vs =>
      have ht1 : bTL h r vs := ⟨Nat.succ.inj ht.1, fun i t hi => ht.2 (i + 1) t hi⟩
      cases o with
      | none =>
        obtain ⟨ι', S', L, k1, k2, k3, k4, k5⟩ := ih g q ht1
        exact ⟨ι', S', _, k1, k2, k3, bmL_cons k4 (fun v e => by cases e), k5⟩
      | some t =>
        obtain ⟨w1, e1, hw⟩ := ht.2 0 t rfl
        have e1 : w = some w1 := Option.some.inj e1
        subst e1
        have g' : bMk t S (fun S1 v => bMkL r S1 (fun L S2 => f (some v :: L) S2)) = true := g
        obtain ⟨ι1, S1, v, m1, m2, m3, m4, m5⟩ := bMk_ok g' q hw
        obtain ⟨ι', S', L, k1, k2, k3, k4, k5⟩ := ih m1 m3 ht1
        exact ⟨ι', S', _, k1, bLe_trans m2 k2, k3, bmL_cons k4 (fun v' e => by cases e; exact ⟨w1, rfl, bmV_mono k2 (bEx_refl h) m4⟩), k5.trans m5⟩
/-! what falls -/
def bV0 (o : Option (Option Value)) : Int := match o with
  | some (some (.int x)) => x.toInt
  | _ => 0
def bMs (vL : sLo) : List (Nat × Int) → Int
  | [] => 0
  | e :: r => e.2 * bV0 vL[e.1]? + bMs vL r
def bIv (ι : List Value) (i : Nat) : Int := bV0 (ι[i]?.map some)
def bSu (ι : List Value) : List (Nat × Int) → Int
  | [] => 0
  | e :: r => e.2 * bIv ι e.1 + bSu ι r
theorem bIv_at {ι : List Value} {i : Nat} {x : Int32} (h : ι[i]? = some (.int x)) : bIv ι i = x.toInt := by
  unfold bIv
  rw [h]; rfl
def bAc (i : Nat) (c : Int) : List (Nat × Int) → List (Nat × Int)
  | [] => [(i, c)]
  | e :: r => bif Nat.beq e.1 i then aFc (e.2 + c) (fun z => (i, z) :: r) else e :: bAc i c r
theorem bAc_ok (ι : List Value) (i : Nat) (c : Int) : ∀ l, bSu ι (bAc i c l) = bSu ι l + c * bIv ι i := by
  intro l
  induction l with
  | nil => show c * bIv ι i + 0 = 0 + c * bIv ι i; omega
  | cons e r ih =>
    unfold bAc
    cases hb : Nat.beq e.1 i with
    | true =>
      have e1 := aBt hb
      show bSu ι (aFc (e.2 + c) (fun z => (i, z) :: r)) = _
      rw [aFc_eq]
      show (e.2 + c) * bIv ι i + bSu ι r = e.2 * bIv ι e.1 + bSu ι r + c * bIv ι i
      rw [e1, Int.add_mul]
      omega
    | false =>
      show e.2 * bIv ι e.1 + bSu ι (bAc i c r) = e.2 * bIv ι e.1 + bSu ι r + c * bIv ι i
      rw [ih]
      omega
theorem bDf_ok {ι : List Value} {i : Nat} : ∀ {D : List (Nat × Nat × Int)}, bmD ι D → bIv ι i = bIv ι (bDf D i).1 + (bDf D i).2 := by
  intro D
  induction D with
  | nil => intro _; show bIv ι i = bIv ι i + 0; omega
  | cons e r ih =>
    intro hD
    unfold bDf
    cases hb : Nat.beq e.1 i with
    | true =>
      obtain ⟨x, y, h1, h2, h3⟩ := hD e List.mem_cons_self
      rw [aBt hb] at h1
      show bIv ι i = bIv ι e.2.1 + e.2.2
      rw [bIv_at h1, bIv_at h2]
      exact h3
    | false => exact ih (fun e he => hD e (List.mem_cons_of_mem _ he))
def bRv : Nat → List (Nat × Nat × Int) → Nat → Int → (Nat → Int → Bool) → Bool
  | 0, _, i, c, f => f i c
  | n + 1, D, i, c, f => (match bDf D i with
    | (j, e) => bif Nat.beq i j then f i c else aFc (c + e) (fun c1 => bRv n D j c1 f))
theorem bRv_ok {ι : List Value} {D : List (Nat × Nat × Int)} (hD : bmD ι D) : ∀ (n i : Nat) (c : Int) (f : Nat → Int → Bool), bRv n D i c f = true → ∃ j e, f j e = true ∧ bIv ι i + c = bIv ι j + e := by
  intro n
  induction n with
  | zero => intro i c f g; exact ⟨i, c, g, rfl⟩
  | succ n ih =>
    intro i c f g
    unfold bRv at g
    have h0 := bDf_ok (i := i) hD
    generalize bDf D i = p at g h0
    obtain ⟨j, e⟩ := p
    dsimp only at g h0
    cases hb : Nat.beq i j with
    | true => rw [hb] at g; exact ⟨i, c, g, rfl⟩
    | false =>
      rw [hb] at g
      dsimp only [cond] at g
      rw [aFc_eq] at g
      obtain ⟨j1, e1, k1, k2⟩ := ih j (c + e) f g
      exact ⟨j1, e1, k1, by omega⟩
def bLn (D : List (Nat × Nat × Int)) (L : bLo) (sg : Int) : List (Nat × Int) → Int → List (Nat × Int) → (Int → List (Nat × Int) → Bool) → Bool
  | [], k, acc, f => f k acc
  | e :: r, k, acc, f => (match aNth L e.1 with
    | some (some (.inl a)) => (match a with
      | .inr c => aFc (k + sg * e.2 * c) (fun k1 => bLn D L sg r k1 acc f)
      | .inl i => bRv 4 D i 0 (fun j c => aFc (k + sg * e.2 * c) (fun k1 => bLn D L sg r k1 (bAc j (sg * e.2) acc) f)))
    | _ => false)
theorem bLn_ok {ι : List Value} {h : sHp} {D : List (Nat × Nat × Int)} {L : bLo} {vL : sLo} {sg : Int} (hD : bmD ι D) (hL : bmL ι h L vL) : ∀ (l : List (Nat × Int)) (k : Int) (acc : List (Nat × Int)) (f : Int → List (Nat × Int) → Bool), bLn D L sg l k acc f = true → ∃ k' acc', f k' acc' = true ∧ k' + bSu ι acc' = k + bSu ι acc + sg * bMs vL l := by
  intro l
  induction l with
  | nil =>
    intro k acc f g
    refine ⟨k, acc, g, ?_⟩
    show k + bSu ι acc = k + bSu ι acc + sg * 0
    rw [Int.mul_zero]
    omega
  | cons e r ih =>
    intro k acc f g
    unfold bLn at g
    rw [aNth_eq] at g
    split at g
    · rename_i a ha
      obtain ⟨w, h1, x, rfl, hx⟩ := hL.2 e.1 _ ha
      have e1 : bMs vL (e :: r) = e.2 * x.toInt + bMs vL r := by
        show e.2 * bV0 vL[e.1]? + bMs vL r = _
        rw [h1]; rfl
      rw [e1]
      cases a with
      | inr c =>
        have hc : x.toInt = c := hx
        dsimp only at g
        rw [aFc_eq] at g
        obtain ⟨k', acc', m1, m2⟩ := ih _ _ _ g
        refine ⟨k', acc', m1, ?_⟩
        rw [m2, hc, Int.mul_add, ← Int.mul_assoc]
        omega
      | inl i =>
        dsimp only at g
        obtain ⟨j, c, g1, g2⟩ := bRv_ok hD _ _ _ _ g
        rw [aFc_eq] at g1
        obtain ⟨k', acc', m1, m2⟩ := ih _ _ _ g1
        refine ⟨k', acc', m1, ?_⟩
        have hi : bIv ι i = x.toInt := bIv_at hx
        rw [m2, bAc_ok, Int.mul_add, ← Int.mul_assoc, ← hi, show bIv ι i = bIv ι j + c by omega, Int.mul_add]
        omega
    · cases g
def bLb (G : List (Nat × Int × Int)) : List (Nat × Int) → Int
  | [] => 0
  | e :: r => (if 0 ≤ e.2 then e.2 * (bG G e.1).1 else e.2 * (bG G e.1).2) + bLb G r
theorem bIv_in {ι : List Value} {i : Nat} : ∀ {G : List (Nat × Int × Int)}, bmG ι G → aW (bIv ι i) (bG G i) := by
  intro G
  induction G with
  | nil =>
    intro _
    show aW (bIv ι i) aFull
    unfold bIv bV0
    split
    · exact aFull_ok _
    · exact ⟨by decide, by decide⟩
  | cons e r ih =>
    intro hG
    unfold bG
    cases hb : Nat.beq e.1 i with
    | true =>
      obtain ⟨x, h1, h2⟩ := hG e List.mem_cons_self
      rw [aBt hb] at h1
      rw [bIv_at h1]
      exact h2
    | false => exact ih (fun e he => hG e (List.mem_cons_of_mem _ he))
theorem bLb_ok {ι : List Value} {G : List (Nat × Int × Int)} (hG : bmG ι G) : ∀ l, bLb G l ≤ bSu ι l := by
  intro l
  induction l with
  | nil => exact Int.le_refl 0
  | cons e r ih =>
    have h0 := bIv_in (i := e.1) hG
    unfold aW at h0
    show (if 0 ≤ e.2 then e.2 * (bG G e.1).1 else e.2 * (bG G e.1).2) + bLb G r ≤ e.2 * bIv ι e.1 + bSu ι r
    have h1 : (if 0 ≤ e.2 then e.2 * (bG G e.1).1 else e.2 * (bG G e.1).2) ≤ e.2 * bIv ι e.1 := by
      split
      · rename_i hp
        exact Int.mul_le_mul_of_nonneg_left h0.1 hp
      · rename_i hp
        exact Int.mul_le_mul_of_nonpos_left (by omega) h0.2
    omega
theorem bSu_le {ι ι' : List Value} (a : bLe ι ι') : ∀ {l : List (Nat × Int)}, (∀ e ∈ l, e.1 < ι.length) → bSu ι' l = bSu ι l := by
  intro l
  induction l with
  | nil => intro _; rfl
  | cons e r ih =>
    intro hl
    obtain ⟨z, rfl⟩ := a
    show e.2 * bIv (ι ++ z) e.1 + bSu (ι ++ z) r = e.2 * bIv ι e.1 + bSu ι r
    rw [ih (fun e' he => hl e' (List.mem_cons_of_mem _ he))]
    unfold bIv
    rw [List.getElem?_append_left (hl e List.mem_cons_self)]
/-! heads -/
def bFtL (S : bS) : bLo → List (Option bTy) → Bool
  | [], ts => (match ts with
    | [] => true
    | _ => false)
  | o :: r, ts => (match ts with
    | [] => false
    | p :: s => (match p with
      | none => true
      | some t => (match o with
        | some v => bFit S v t
        | none => false)) && bFtL S r s)
theorem bFtL_ok {ι : List Value} {h : sHp} {S : bS} (q : bmS ι h S) : ∀ {L : bLo} {ts : List (Option bTy)} {vL : sLo}, bFtL S L ts = true → bmL ι h L vL → bTL h ts vL := by
  intro L
  induction L with
  | nil =>
    intro ts vL g hL
    cases ts with
    | nil => exact ⟨hL.1, fun i t hi => by cases hi⟩
    | cons p s => cases g
  | cons o r ih =>
    intro ts vL g hL
    cases ts with
    | nil => cases g
    | cons p s =>
      cases vL with
      | nil => cases hL.1
      | cons w vs =>
        replace g := aBa g
        obtain ⟨g1, g2⟩ := g
        have hL1 : bmL ι h r vs := ⟨Nat.succ.inj hL.1, fun i t hi => hL.2 (i + 1) t hi⟩
        have h2 := ih g2 hL1
        refine ⟨by rw [List.length_cons, List.length_cons, h2.1], fun i t hi => ?_⟩
        cases i with
        | zero =>
          have e : p = some t := Option.some.inj hi
          subst e
          dsimp only at g1
          split at g1
          · rename_i v
            obtain ⟨w1, e1, hv⟩ := hL.2 0 v rfl
            exact ⟨w1, e1, bFit_ok g1 q hv⟩
          · cases g1
        | succ i => exact h2.2 i t hi
def bAt (T2 : List bTp) (ko : Int) (ao : List (Nat × Int)) (pc : Nat) (L : bLo) (st : List bV) (S : bS) : Bool := T2.any (fun t => Nat.beq t.1 pc && (st.isEmpty && (Nat.beq S.2.1 0 && (bFtL S L t.2.1 && (bOvF S t.2.2.1 && bLn S.2.2.2.1 L (-1) t.2.2.2.2 (ko - t.2.2.2.1) ao (fun k acc => decide (1 ≤ k + bLb S.2.2.1 acc)))))))
/-- places from which the rest is known otherwise -/
def bAx (X : List bTp) (pc : Nat) (L : bLo) (st : List bV) (S : bS) : Bool := X.any (fun t => Nat.beq t.1 pc && (st.isEmpty && (Nat.beq S.2.1 0 && (bFtL S L t.2.1 && bOvF S t.2.2.1))))
def bPr (cn : bCn) (d : Nat) (t : bTp) : Prop := ∀ (h : sHp) (vL : sLo), bH h → bTL h t.2.1 vL → bOv h t.2.2.1 → sGo none cn.1 d t.1 vL [] h (fun r h' => bEn cn r h h')
theorem bEn_tr {cn : bCn} {h h1 h' : sHp} {r : Option Value} (a : bFr cn.2.2.2.2.1 0 h h1) (q : bEn cn r h1 h') : bEn cn r h h' := by
  refine ⟨q.1, ?_, q.2.2⟩
  have := bFr_trans a q.2.1
  rw [Nat.zero_add] at this
  exact this
def bKe (cn : bCn) : bKt := fun v S => Nat.ble S.2.1 cn.2.2.2.2.2.1 && cn.2.2.2.2.2.2.any (fun po => (match po.1 with
  | none => (match v with
    | none => true
    | some _ => false)
  | some t => (match v with
    | none => false
    | some v => bFit S v t)) && bOvF S po.2)
def bChk (sp : Bool) (T : List bCn) (cn : bCn) (q : sMt) (d : Nat) (X T2 : List bTp) (t : bTp) : Bool := bMkL t.2.1 (0, 0, [], [], [], [], []) (fun L S => bMkO t.2.2.1 S (fun S1 => bLn S1.2.2.2.1 L 1 t.2.2.2.2 t.2.2.2.1 [] (fun k acc => (decide (1 ≤ k + bLb S1.2.2.1 acc) && acc.all (fun e => Nat.blt e.1 S1.1)) && bRun false sp T cn.2.2.2.2.1 (fun pc L st S => bAt T2 k acc pc L st S || bAx X pc L st S) 3000 true d cn.1 q t.1 L [] S1 (bKe cn))))
theorem bmS_nil (h : sHp) : bmS [] h (0, 0, [], [], [], [], []) := ⟨rfl, (fun e he => by cases he), (fun e he => by cases he), (fun e he => by cases he), (fun e he => by cases he), (fun e he => by cases he)⟩
theorem bChk_ok {sp : Bool} {T : List bCn} {cn : bCn} {q : sMt} {d : Nat} {X T2 : List bTp} (hT : ∀ c ∈ T, bHolds c) (HX : ∀ x ∈ X, bPr cn d x) (hq : sM cn.1 = some q) (hc : ∀ t ∈ T2, bChk sp T cn q d X T2 t = true) : ∀ (n : Nat) (t : bTp), bChk sp T cn q d X T2 t = true → ∀ (h : sHp) (vL : sLo), bH h → bTL h t.2.1 vL → bOv h t.2.2.1 → (t.2.2.2.1 + bMs vL t.2.2.2.2).toNat < n → sGo none cn.1 d t.1 vL [] h (fun r h' => bEn cn r h h') := by
  intro n
  induction n with
  | zero => intro t _ h vL _ _ _ hn; omega
  | succ n ih =>
    intro t g h vL hH hL hO hn
    unfold bChk at g
    obtain ⟨ι1, S1, L, g1, -, q1, hL1, e1⟩ := bMkL_ok _ g (bmS_nil h) hL
    obtain ⟨ι2, S2, g2, l2, q2, e2⟩ := bMkO_ok _ g1 q1 hO
    have hL2 := bmL_mono l2 (bEx_refl h) hL1
    obtain ⟨k, acc, g3, e3⟩ := bLn_ok q2.2.2.1 hL2 _ _ _ _ g2
    replace g3 := aBa g3
    obtain ⟨g3, g4⟩ := g3
    replace g3 := aBa g3
    obtain ⟨g3, g5⟩ := g3
    replace g3 := of_decide_eq_true g3
    have hlb := bLb_ok q2.2.1 acc
    have e30 : bSu ι2 [] = 0 := rfl
    rw [e30] at e3
    have hg : S2.2.1 = 0 := e2.trans e1
    have hrun := bRun_ok (X := none) (h0 := h) (W := cn.2.2.2.2.1) (ι0 := ι2) (k0 := cn.1) (d0 := d) (K0 := bKe cn) (Q0 := fun r h' => bEn cn r h h') (c := false) (sp := sp) (T := T) (K2 := fun pc L st S => bAt T2 k acc pc L st S || bAx X pc L st S) ⟨(fun e => by cases e), fun _ => rfl⟩ hT ?_ ?_ 3000
    · exact hrun true d cn.1 q t.1 L [] S2 (bKe cn) g4 ι2 h vL [] hq (bLe_refl ι2) q2 hL2 trivial hH (by rw [hg]; exact bFr_refl _ _) (fun _ => ⟨rfl, rfl, rfl⟩)
    · intro pc L' st' S' ι' h' vL' vst' gk hle hS' hL' hs' hH' hF'
      rw [Bool.or_eq_true] at gk
      rcases gk with gk | gk
      rotate_left
      · unfold bAx at gk
        replace gk := List.any_eq_true.mp gk
        obtain ⟨x, hx, gk⟩ := gk
        obtain ⟨a1, gk⟩ := aBa gk
        obtain ⟨a2, gk⟩ := aBa gk
        obtain ⟨a3, gk⟩ := aBa gk
        obtain ⟨a4, a5⟩ := aBa gk
        have est : st' = [] := List.isEmpty_iff.mp a2
        subst est
        have evs := bmT1_nil hs'
        subst evs
        rw [← aBt a1]
        refine sGo_mono (HX x hx h' vL' hH' (bFtL_ok hS' a4 hL') (bOvF_ok a5 hS')) (fun r h'' hen => ?_)
        have e0 : S'.2.1 = 0 := aBt a3
        rw [e0] at hF'
        exact bEn_tr hF' hen
      unfold bAt at gk
      replace gk := List.any_eq_true.mp gk
      obtain ⟨t', ht', gk⟩ := gk
      replace gk := aBa gk
      obtain ⟨a1, gk⟩ := gk
      replace gk := aBa gk
      obtain ⟨a2, gk⟩ := gk
      replace gk := aBa gk
      obtain ⟨a3, gk⟩ := gk
      replace gk := aBa gk
      obtain ⟨a4, gk⟩ := gk
      replace gk := aBa gk
      obtain ⟨a5, gk⟩ := gk
      have est : st' = [] := List.isEmpty_iff.mp a2
      subst est
      have evs := bmT1_nil hs'
      subst evs
      obtain ⟨k', acc', b1, b2⟩ := bLn_ok hS'.2.2.1 hL' _ _ _ _ gk
      replace b1 := of_decide_eq_true b1
      have hlb' := bLb_ok hS'.2.1 acc'
      have hsu : bSu ι' acc = bSu ι2 acc := bSu_le hle (fun e he => by
        rw [q2.1]
        exact aBl (List.all_eq_true.mp g5 e he))
      have hlt : (t'.2.2.2.1 + bMs vL' t'.2.2.2.2).toNat < n := by omega
      rw [← aBt a1]
      refine sGo_mono (ih t' (hc t' ht') h' vL' hH' (bFtL_ok hS' a4 hL') (bOvF_ok a5 hS') hlt) ?_
      intro r h'' hen
      have e0 : S'.2.1 = 0 := aBt a3
      rw [e0] at hF'
      exact bEn_tr hF' hen
    · intro v S' ι' h' r gk hle hS' hH' hv hF'
      unfold bKe at gk
      replace gk := aBa gk
      obtain ⟨a1, gk⟩ := gk
      replace gk := List.any_eq_true.mp gk
      obtain ⟨po, hpo, gk⟩ := gk
      replace gk := aBa gk
      obtain ⟨a2, a3⟩ := gk
      refine ⟨hH', bFr_mono (bSb_refl _) (Nat.le_of_ble_eq_true a1) hF', po, hpo, ?_, bOvF_ok a3 hS'⟩
      unfold bRs
      split at a2
      · rename_i ep
        rw [ep]
        split at a2
        · cases r with
          | none => rfl
          | some w => exact hv.elim
        · cases a2
      · rename_i ty ep
        rw [ep]
        split at a2
        · cases a2
        · rename_i v1
          cases r with
          | none => exact hv.elim
          | some w => exact ⟨w, rfl, bFit_ok a2 hS' hv⟩
end
section
/-! ===== the second executor: a method keeps to its word ===== -/
def bIsJ (t : bTy) : Bool := match t with
  | .inr (k, _) => Nat.beq k 0
  | _ => false
def bSlt : List bTy → Nat
  | [] => 0
  | t :: r => (bif bIsJ t then 2 else 1) + bSlt r
def bIt : List bTy → Nat → List (Option bTy)
  | [], n => List.replicate n none
  | t :: r, n => bif bIsJ t then some t :: none :: bIt r (n - 2) else some t :: bIt r (n - 1)
theorem bT_cat {h : sHp} {t : bTy} {w : Value} (q : bT h t w) : w.category = (bif bIsJ t then 2 else 1) ∧ sNd w = true := by
  rcases t with ⟨lo, hi⟩ | ⟨k, K⟩
  · obtain ⟨x, rfl, -⟩ := q
    exact ⟨rfl, rfl⟩
  · match k, q with
    | 0, q =>
      obtain ⟨x, rfl⟩ := q
      exact ⟨rfl, rfl⟩
    | 1, q =>
      have e : w = .null := q
      subst e
      exact ⟨rfl, rfl⟩
    | 2, q =>
      obtain ⟨p, rfl, -⟩ := q
      exact ⟨rfl, rfl⟩
    | k + 3, q =>
      have q' : w = .null ∨ ∃ p, w = .ref p ∧ bIn h K p := q
      rcases q' with rfl | ⟨p, rfl, -⟩ <;> exact ⟨rfl, rfl⟩
theorem bTl_nd {h : sHp} : ∀ {ts : List bTy} {vs : List Value}, bTl h ts vs → vs.all sNd = true := by
  intro ts
  induction ts with
  | nil =>
    intro vs q
    cases vs with
    | nil => rfl
    | cons v s => exact q.elim
  | cons t r ih =>
    intro vs q
    cases vs with
    | nil => exact q.elim
    | cons v s => rw [List.all_cons, (bT_cat q.1).2, ih q.2]; rfl
theorem bTL_cons {h : sHp} {o : Option bTy} {p : Option Value} {ts : List (Option bTy)} {vL : sLo} (q : bTL h ts vL) (ho : ∀ t, o = some t → ∃ w, p = some w ∧ bT h t w) : bTL h (o :: ts) (p :: vL) := by
  refine ⟨by rw [List.length_cons, List.length_cons, q.1], fun i t hi => ?_⟩
  cases i with
  | zero =>
    rw [List.getElem?_cons_zero] at hi
    obtain ⟨w, e, h2⟩ := ho t (Option.some.inj hi)
    exact ⟨w, by rw [List.getElem?_cons_zero, e], h2⟩
  | succ i =>
    rw [List.getElem?_cons_succ] at hi ⊢
    exact q.2 i t hi
theorem bIt_ok {h : sHp} : ∀ (ts : List bTy) (vs : List Value) (n : Nat), bTl h ts vs → bSlt ts ≤ n → (sIniA vs).length = bSlt ts ∧ bTL h (bIt ts n) (sIniA vs ++ List.replicate (n - bSlt ts) none) := by
  intro ts
  induction ts with
  | nil =>
    intro vs n q _
    cases vs with
    | nil =>
      refine ⟨rfl, ⟨by simp [bIt, bSlt, sIniA], fun i t hi => ?_⟩⟩
      unfold bIt at hi
      rw [List.getElem?_replicate] at hi
      split at hi <;> cases hi
    | cons v s => exact q.elim
  | cons t r ih =>
    intro vs n q hn
    cases vs with
    | nil => exact q.elim
    | cons v s =>
      have hc := (bT_cat q.1).1
      have hn' : (bif bIsJ t then 2 else 1) + bSlt r ≤ n := hn
      cases hj : bIsJ t with
      | true =>
        rw [hj] at hc hn'
        have hc : v.category = 2 := hc
        have hn' : 2 + bSlt r ≤ n := hn'
        obtain ⟨k1, k2⟩ := ih s (n - 2) q.2 (by omega)
        have e : sIniA (v :: s) = some v :: none :: sIniA s := by
          show (if v.category = 2 then _ else _) = _
          rw [if_pos hc]
        have e2 : bSlt (t :: r) = 2 + bSlt r := by
          show (bif bIsJ t then 2 else 1) + bSlt r = _
          rw [hj]; rfl
        have e3 : bIt (t :: r) n = some t :: none :: bIt r (n - 2) := by
          show (bif bIsJ t then _ else _) = _
          rw [hj]; rfl
        rw [e, e2, e3]
        refine ⟨by rw [List.length_cons, List.length_cons, k1]; omega, ?_⟩
        rw [show n - (2 + bSlt r) = n - 2 - bSlt r by omega]
        exact bTL_cons (bTL_cons k2 (fun t' e' => by cases e')) (fun t' e' => by cases e'; exact ⟨v, rfl, q.1⟩)
      | false =>
        rw [hj] at hc hn'
        have hc : v.category = 1 := hc
        have hn' : 1 + bSlt r ≤ n := hn'
        obtain ⟨k1, k2⟩ := ih s (n - 1) q.2 (by omega)
        have e : sIniA (v :: s) = some v :: sIniA s := by
          show (if v.category = 2 then _ else _) = _
          rw [if_neg (by rw [hc]; decide)]
        have e2 : bSlt (t :: r) = 1 + bSlt r := by
          show (bif bIsJ t then 2 else 1) + bSlt r = _
          rw [hj]; rfl
        have e3 : bIt (t :: r) n = some t :: bIt r (n - 1) := by
          show (bif bIsJ t then _ else _) = _
          rw [hj]; rfl
        rw [e, e2, e3]
        refine ⟨by rw [List.length_cons, k1]; omega, ?_⟩
        rw [show n - (1 + bSlt r) = n - 1 - bSlt r by omega]
        exact bTL_cons k2 (fun t' e' => by cases e'; exact ⟨v, rfl, q.1⟩)
/-- all these places, if the ones of X are known -/
def bCka (sp : Bool) (T : List bCn) (cn : bCn) (X T2 : List bTp) : Bool := match aNth sMs cn.1 with
  | none => false
  | some q => (match cn.2.1 with
    | 0 => false
    | d + 1 => T2.all (bChk sp T cn q d X T2))
theorem bCka_ok {sp : Bool} {T : List bCn} {cn : bCn} {X T2 : List bTp} {d : Nat} (g : bCka sp T cn X T2 = true) (hd : cn.2.1 = d + 1) (hT : ∀ c ∈ T, bHolds c) (HX : ∀ x ∈ X, bPr cn d x) : ∀ t ∈ T2, bPr cn d t := by
  unfold bCka at g
  rw [hd] at g
  split at g
  · cases g
  · rename_i q hq
    rw [aNth_eq] at hq
    have hc := List.all_eq_true.mp g
    intro t ht h vL hH hL hO
    exact bChk_ok hT HX (show sM cn.1 = some q from hq) hc _ t (hc t ht) h vL hH hL hO (Nat.lt_succ_self _)
def bEt (cn : bCn) (c0 : Int) : bTp := (0, bIt cn.2.2.1 ((sNk cn.1).getD 0), cn.2.2.2.1, c0, [])
theorem bEt_ok {cn : bCn} {c0 : Int} {d : Nat} (hd : cn.2.1 = d + 1) (hs : Nat.ble (bSlt cn.2.2.1) ((sNk cn.1).getD 0) = true) (hn0 : (sNk cn.1).isSome = true) (p : bPr cn d (bEt cn c0)) : bHolds cn := by
  intro h vs hH ht hO
  obtain ⟨k, dep, ts, pre, W, gr, ps⟩ := cn
  dsimp only at hd ht hO hs hn0
  subst hd
  obtain ⟨nL, hn⟩ := Option.isSome_iff_exists.mp hn0
  rw [hn] at hs
  have hs : bSlt ts ≤ nL := Nat.le_of_ble_eq_true hs
  obtain ⟨i1, i2⟩ := bIt_ok ts vs nL ht hs
  have hi : sIni nL vs = some (sIniA vs ++ List.replicate (nL - (sIniA vs).length) none) := by
    unfold sIni
    rw [if_pos ⟨bTl_nd ht, by rw [i1]; exact hs⟩]
  rw [← i1] at i2
  refine sDo_of hn hi (p h _ hH ?_ hO)
  show bTL h (bIt ts ((sNk k).getD 0)) _
  rw [hn]
  exact i2
def bCk (sp : Bool) (T : List bCn) (cn : bCn) (X : List bTp) (c0 : Int) (T2 : List bTp) : Bool := (Nat.ble (bSlt cn.2.2.1) ((sNk cn.1).getD 0) && (sNk cn.1).isSome) && bCka sp T cn X (bEt cn c0 :: T2)
theorem bCk_ok {sp : Bool} {T : List bCn} {cn : bCn} {X : List bTp} {c0 : Int} {T2 : List bTp} {d : Nat} (g : bCk sp T cn X c0 T2 = true) (hd : cn.2.1 = d + 1) (hT : ∀ c ∈ T, bHolds c) (HX : ∀ x ∈ X, bPr cn d x) : bHolds cn := by
  unfold bCk at g
  obtain ⟨g1, g2⟩ := aBa g
  obtain ⟨g1, g3⟩ := aBa g1
  exact bEt_ok hd g1 g3 (bCka_ok g2 hd hT HX _ List.mem_cons_self)
def bAH (T : List bCn) : Prop := ∀ c ∈ T, bHolds c
theorem bAH_nil : bAH [] := fun _ h => by cases h
theorem bAH_cons {c : bCn} {T : List bCn} (h : bHolds c) (hT : bAH T) : bAH (c :: T) := fun c' h' => by
  rcases List.mem_cons.mp h' with rfl | h'
  · exact h
  · exact hT c' h'
theorem bX_nil {cn : bCn} {d : Nat} : ∀ x ∈ ([] : List bTp), bPr cn d x := fun _ h => by cases h
end
section
/-! ===== length and charAt of the words, as contracts ===== -/
theorem bIn_word {h : sHp} {i p : Nat} (hH : bH h) (hi : i < 7) (q : bIn h (400 + i) p) : p = 2000000 + i := by
  rcases q with ⟨c, h1, h2⟩ | ⟨e, -⟩ | ⟨-, e⟩
  · obtain ⟨ct, h3, h4⟩ := hH.2.1 p c h1
    rcases bKK_cases h2 with e | ⟨e, -⟩
    · rw [e] at h3
      have := bGam_lt h3
      omega
    · omega
  · omega
  · omega
theorem b_itf2 {i : Nat} (hi : i < 7) : (2000000 : Nat) ≤ 2000000 + i ∧ 2000000 + i < 2000007 := by omega
theorem s_len_at {i : Nat} (hi : i < 7) (h : sHp) : sCall 2 0 300 [.ref (2000000 + i)] h = some (some (.int (Int32.ofNat (sTxL.getD i 0))), h) := by
  rw [sCall, if_pos (Nat.le_refl _)]
  unfold sStC
  dsimp only
  rw [if_pos ⟨rfl, Nat.le_refl _, (b_itf2 hi).1, (b_itf2 hi).2⟩, Nat.add_sub_cancel_left]
theorem s_chr_at {i : Nat} (hi : i < 7) (h : sHp) {x : Int32} (hx : ¬ (x < 0 ∨ sTxL.getD i 0 ≤ x.toNatClampNeg)) : sCall 4 0 301 [.ref (2000000 + i), .int x] h = some (some (.int (sTxC i x.toNatClampNeg)), h) := by
  rw [sCall, if_pos (by decide)]
  unfold sStC
  dsimp only
  rw [Nat.add_sub_cancel_left, if_pos ⟨rfl, Nat.le_refl _, b_itf2 hi, hx⟩]
theorem ch_len {i : Nat} {n : Int} (hi : i < 7) (hn : (Int32.ofNat (sTxL.getD i 0)).toInt = n) : bHolds (300, 2, [.inr (2, 400 + i)], [], 0, 0, [(some (.inl (n, n)), [])]) := by
  intro h vs hH ht hO
  rcases vs with _ | ⟨v, _ | ⟨u, vs⟩⟩
  · exact False.elim ht
  · obtain ⟨⟨p, rfl, hp⟩, -⟩ := ht
    have hp := bIn_word hH hi hp
    subst hp
    exact ⟨0, _, h, s_len_at hi h, hH, bFr_refl _ _, _, List.mem_cons_self, ⟨_, rfl, _, rfl, by rw [hn]; exact Int.le_refl _, by rw [hn]; exact Int.le_refl _⟩, fun e he => by cases he⟩
  · exact False.elim ht.2
theorem s_let : ∀ i, i < 7 → ∀ j, j < sTxL.getD i 0 → 0 ≤ (sTxC i j).toInt ∧ (sTxC i j).toInt ≤ 127 := by decide +kernel
theorem ch_chr {i : Nat} {n : Int} (hi : i < 7) (hn : ((sTxL.getD i 0 : Nat) : Int) = n + 1) : bHolds (301, 4, [.inr (2, 400 + i), .inl (0, n)], [], 0, 0, [(some (.inl (0, 127)), [])]) := by
  intro h vs hH ht hO
  rcases vs with _ | ⟨v, _ | ⟨u, _ | ⟨z, vs⟩⟩⟩
  · exact False.elim ht
  · exact False.elim ht.2
  · obtain ⟨⟨p, rfl, hp⟩, ⟨x, rfl, x1, x2⟩, -⟩ := ht
    have hp := bIn_word hH hi hp
    subst hp
    have e : (x.toNatClampNeg : Int) = x.toInt := by
      show ((x.toInt.toNat : Nat) : Int) = x.toInt
      omega
    have hx : ¬ (x < 0 ∨ sTxL.getD i 0 ≤ x.toNatClampNeg) := by
      intro z
      rcases z with z | z
      · have := Int32.lt_iff_toInt_lt.mp z
        have e0 : (0 : Int32).toInt = 0 := rfl
        omega
      · omega
    obtain ⟨l1, l2⟩ := s_let i hi x.toNatClampNeg (by omega)
    exact ⟨0, _, h, s_chr_at hi h hx, hH, bFr_refl _ _, _, List.mem_cons_self, ⟨_, rfl, _, rfl, l1, l2⟩, fun e he => by cases he⟩
  · exact False.elim ht.2.2
def cn_S_len_0 : bCn := (300, 2, [.inr (2, 400)], [], 0x0, 0, [(some (.inl (.ofNat 4, .ofNat 4)), [])])
theorem ch_S_len_0 : bHolds cn_S_len_0 := ch_len (i := 0) (n := 4) (by decide) (by decide)
def cn_S_chr_0 : bCn := (301, 4, [.inr (2, 400), .inl (.ofNat 0, .ofNat 3)], [], 0x0, 0, [(some (.inl (.ofNat 0, .ofNat 127)), [])])
theorem ch_S_chr_0 : bHolds cn_S_chr_0 := ch_chr (i := 0) (n := 3) (by decide) (by decide)
def cn_S_len_1 : bCn := (300, 2, [.inr (2, 401)], [], 0x0, 0, [(some (.inl (.ofNat 4, .ofNat 4)), [])])
theorem ch_S_len_1 : bHolds cn_S_len_1 := ch_len (i := 1) (n := 4) (by decide) (by decide)
def cn_S_chr_1 : bCn := (301, 4, [.inr (2, 401), .inl (.ofNat 0, .ofNat 3)], [], 0x0, 0, [(some (.inl (.ofNat 0, .ofNat 127)), [])])
theorem ch_S_chr_1 : bHolds cn_S_chr_1 := ch_chr (i := 1) (n := 3) (by decide) (by decide)
def cn_S_len_2 : bCn := (300, 2, [.inr (2, 402)], [], 0x0, 0, [(some (.inl (.ofNat 4, .ofNat 4)), [])])
theorem ch_S_len_2 : bHolds cn_S_len_2 := ch_len (i := 2) (n := 4) (by decide) (by decide)
def cn_S_chr_2 : bCn := (301, 4, [.inr (2, 402), .inl (.ofNat 0, .ofNat 3)], [], 0x0, 0, [(some (.inl (.ofNat 0, .ofNat 127)), [])])
theorem ch_S_chr_2 : bHolds cn_S_chr_2 := ch_chr (i := 2) (n := 3) (by decide) (by decide)
def cn_S_len_3 : bCn := (300, 2, [.inr (2, 403)], [], 0x0, 0, [(some (.inl (.ofNat 4, .ofNat 4)), [])])
theorem ch_S_len_3 : bHolds cn_S_len_3 := ch_len (i := 3) (n := 4) (by decide) (by decide)
def cn_S_chr_3 : bCn := (301, 4, [.inr (2, 403), .inl (.ofNat 0, .ofNat 3)], [], 0x0, 0, [(some (.inl (.ofNat 0, .ofNat 127)), [])])
theorem ch_S_chr_3 : bHolds cn_S_chr_3 := ch_chr (i := 3) (n := 3) (by decide) (by decide)
def cn_S_len_4 : bCn := (300, 2, [.inr (2, 404)], [], 0x0, 0, [(some (.inl (.ofNat 3, .ofNat 3)), [])])
theorem ch_S_len_4 : bHolds cn_S_len_4 := ch_len (i := 4) (n := 3) (by decide) (by decide)
def cn_S_chr_4 : bCn := (301, 4, [.inr (2, 404), .inl (.ofNat 0, .ofNat 2)], [], 0x0, 0, [(some (.inl (.ofNat 0, .ofNat 127)), [])])
theorem ch_S_chr_4 : bHolds cn_S_chr_4 := ch_chr (i := 4) (n := 2) (by decide) (by decide)
def cn_S_len_5 : bCn := (300, 2, [.inr (2, 405)], [], 0x0, 0, [(some (.inl (.ofNat 5, .ofNat 5)), [])])
theorem ch_S_len_5 : bHolds cn_S_len_5 := ch_len (i := 5) (n := 5) (by decide) (by decide)
def cn_S_chr_5 : bCn := (301, 4, [.inr (2, 405), .inl (.ofNat 0, .ofNat 4)], [], 0x0, 0, [(some (.inl (.ofNat 0, .ofNat 127)), [])])
theorem ch_S_chr_5 : bHolds cn_S_chr_5 := ch_chr (i := 5) (n := 4) (by decide) (by decide)
def cn_S_len_6 : bCn := (300, 2, [.inr (2, 406)], [], 0x0, 0, [(some (.inl (.ofNat 4, .ofNat 4)), [])])
theorem ch_S_len_6 : bHolds cn_S_len_6 := ch_len (i := 6) (n := 4) (by decide) (by decide)
def cn_S_chr_6 : bCn := (301, 4, [.inr (2, 406), .inl (.ofNat 0, .ofNat 3)], [], 0x0, 0, [(some (.inl (.ofNat 0, .ofNat 127)), [])])
theorem ch_S_chr_6 : bHolds cn_S_chr_6 := ch_chr (i := 6) (n := 3) (by decide) (by decide)
end
