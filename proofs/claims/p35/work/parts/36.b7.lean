/-! ===== the second executor: loops ===== -/
/-- a place with an empty stack: locals, cells, what falls from round to round -/
abbrev bTp : Type := Nat × List (Option bTy) × List (Nat × bTy) × Int × List (Nat × Int)
def bTL (h : sHp) (ts : List (Option bTy)) (vL : sLo) : Prop := ts.length = vL.length ∧ ∀ (i : Nat) (t : bTy), ts[i]? = some (some t) → ∃ w : Value, vL[i]? = some (some w) ∧ bT h t w
def bMkL : List (Option bTy) → bS → (bLo → bS → Bool) → Bool
  | [], S, f => f [] S
  | o :: r, S, f => (match o with
    | none => bMkL r S (fun L S1 => f (none :: L) S1)
    | some t => bMk t S (fun S1 v => bMkL r S1 (fun L S2 => f (some v :: L) S2)))
theorem bMkL_ok {h : sHp} : ∀ (ts : List (Option bTy)) {ι : List Value} {S : bS} {f : bLo → bS → Bool} {vL : sLo}, bMkL ts S f = true → bmS ι h S → bTL h ts vL → ∃ ι' S' L, f L S' = true ∧ bLe ι ι' ∧ bmS ι' h S' ∧ bmL ι' h L vL ∧ S'.2.1 = S.2.1 := by
  intro ts
  induction ts with
  | nil =>
    intro ι S f vL g q ht
    refine ⟨ι, S, [], g, bLe_refl ι, q, ⟨ht.1, fun i v hv => by cases hv⟩, rfl⟩
  | cons o r ih =>
    intro ι S f vL g q ht
    cases vL with
    | nil => cases ht.1
    | cons w vs =>
      have ht1 : bTL h r vs := ⟨Nat.succ.inj ht.1, fun i t hi => ht.2 (i + 1) t hi⟩
      cases o with
      | none =>
        obtain ⟨ι', S', L, k1, k2, k3, k4, k5⟩ := ih g q ht1
        exact ⟨ι', S', _, k1, k2, k3, bmL_cons k4 (fun v e => by cases e), k5⟩
      | some t =>
        obtain ⟨w1, e1, hw⟩ := ht.2 0 t rfl
        have e1 : w = some w1 := Option.some.inj e1
        subst e1
        have g' : bMk t S (fun S1 v => bMkL r S1 (fun L S2 => f (some v :: L) S2)) = true := g
        obtain ⟨ι1, S1, v, m1, m2, m3, m4, m5⟩ := bMk_ok g' q hw
        obtain ⟨ι', S', L, k1, k2, k3, k4, k5⟩ := ih m1 m3 ht1
        exact ⟨ι', S', _, k1, bLe_trans m2 k2, k3, bmL_cons k4 (fun v' e => by cases e; exact ⟨w1, rfl, bmV_mono k2 (bEx_refl h) m4⟩), k5.trans m5⟩
/-! what falls -/
def bV0 (o : Option (Option Value)) : Int := match o with
  | some (some (.int x)) => x.toInt
  | _ => 0
def bMs (vL : sLo) : List (Nat × Int) → Int
  | [] => 0
  | e :: r => e.2 * bV0 vL[e.1]? + bMs vL r
def bIv (ι : List Value) (i : Nat) : Int := bV0 (ι[i]?.map some)
def bSu (ι : List Value) : List (Nat × Int) → Int
  | [] => 0
  | e :: r => e.2 * bIv ι e.1 + bSu ι r
theorem bIv_at {ι : List Value} {i : Nat} {x : Int32} (h : ι[i]? = some (.int x)) : bIv ι i = x.toInt := by
  unfold bIv
  rw [h]; rfl
def bAc (i : Nat) (c : Int) : List (Nat × Int) → List (Nat × Int)
  | [] => [(i, c)]
  | e :: r => bif Nat.beq e.1 i then aFc (e.2 + c) (fun z => (i, z) :: r) else e :: bAc i c r
theorem bAc_ok (ι : List Value) (i : Nat) (c : Int) : ∀ l, bSu ι (bAc i c l) = bSu ι l + c * bIv ι i := by
  intro l
  induction l with
  | nil => show c * bIv ι i + 0 = 0 + c * bIv ι i; omega
  | cons e r ih =>
    unfold bAc
    cases hb : Nat.beq e.1 i with
    | true =>
      have e1 := aBt hb
      show bSu ι (aFc (e.2 + c) (fun z => (i, z) :: r)) = _
      rw [aFc_eq]
      show (e.2 + c) * bIv ι i + bSu ι r = e.2 * bIv ι e.1 + bSu ι r + c * bIv ι i
      rw [e1, Int.add_mul]
      omega
    | false =>
      show e.2 * bIv ι e.1 + bSu ι (bAc i c r) = e.2 * bIv ι e.1 + bSu ι r + c * bIv ι i
      rw [ih]
      omega
theorem bDf_ok {ι : List Value} {i : Nat} : ∀ {D : List (Nat × Nat × Int)}, bmD ι D → bIv ι i = bIv ι (bDf D i).1 + (bDf D i).2 := by
  intro D
  induction D with
  | nil => intro _; show bIv ι i = bIv ι i + 0; omega
  | cons e r ih =>
    intro hD
    unfold bDf
    cases hb : Nat.beq e.1 i with
    | true =>
      obtain ⟨x, y, h1, h2, h3⟩ := hD e List.mem_cons_self
      rw [aBt hb] at h1
      show bIv ι i = bIv ι e.2.1 + e.2.2
      rw [bIv_at h1, bIv_at h2]
      exact h3
    | false => exact ih (fun e he => hD e (List.mem_cons_of_mem _ he))
def bRv : Nat → List (Nat × Nat × Int) → Nat → Int → (Nat → Int → Bool) → Bool
  | 0, _, i, c, f => f i c
  | n + 1, D, i, c, f => (match bDf D i with
    | (j, e) => bif Nat.beq i j then f i c else aFc (c + e) (fun c1 => bRv n D j c1 f))
theorem bRv_ok {ι : List Value} {D : List (Nat × Nat × Int)} (hD : bmD ι D) : ∀ (n i : Nat) (c : Int) (f : Nat → Int → Bool), bRv n D i c f = true → ∃ j e, f j e = true ∧ bIv ι i + c = bIv ι j + e := by
  intro n
  induction n with
  | zero => intro i c f g; exact ⟨i, c, g, rfl⟩
  | succ n ih =>
    intro i c f g
    unfold bRv at g
    have h0 := bDf_ok (i := i) hD
    generalize bDf D i = p at g h0
    obtain ⟨j, e⟩ := p
    dsimp only at g h0
    cases hb : Nat.beq i j with
    | true => rw [hb] at g; exact ⟨i, c, g, rfl⟩
    | false =>
      rw [hb] at g
      dsimp only [cond] at g
      rw [aFc_eq] at g
      obtain ⟨j1, e1, k1, k2⟩ := ih j (c + e) f g
      exact ⟨j1, e1, k1, by omega⟩
def bLn (D : List (Nat × Nat × Int)) (L : bLo) (sg : Int) : List (Nat × Int) → Int → List (Nat × Int) → (Int → List (Nat × Int) → Bool) → Bool
  | [], k, acc, f => f k acc
  | e :: r, k, acc, f => (match aNth L e.1 with
    | some (some (.inl a)) => (match a with
      | .inr c => aFc (k + sg * e.2 * c) (fun k1 => bLn D L sg r k1 acc f)
      | .inl i => bRv 4 D i 0 (fun j c => aFc (k + sg * e.2 * c) (fun k1 => bLn D L sg r k1 (bAc j (sg * e.2) acc) f)))
    | _ => false)
theorem bLn_ok {ι : List Value} {h : sHp} {D : List (Nat × Nat × Int)} {L : bLo} {vL : sLo} {sg : Int} (hD : bmD ι D) (hL : bmL ι h L vL) : ∀ (l : List (Nat × Int)) (k : Int) (acc : List (Nat × Int)) (f : Int → List (Nat × Int) → Bool), bLn D L sg l k acc f = true → ∃ k' acc', f k' acc' = true ∧ k' + bSu ι acc' = k + bSu ι acc + sg * bMs vL l := by
  intro l
  induction l with
  | nil =>
    intro k acc f g
    refine ⟨k, acc, g, ?_⟩
    show k + bSu ι acc = k + bSu ι acc + sg * 0
    rw [Int.mul_zero]
    omega
  | cons e r ih =>
    intro k acc f g
    unfold bLn at g
    rw [aNth_eq] at g
    split at g
    · rename_i a ha
      obtain ⟨w, h1, x, rfl, hx⟩ := hL.2 e.1 _ ha
      have e1 : bMs vL (e :: r) = e.2 * x.toInt + bMs vL r := by
        show e.2 * bV0 vL[e.1]? + bMs vL r = _
        rw [h1]; rfl
      rw [e1]
      cases a with
      | inr c =>
        have hc : x.toInt = c := hx
        dsimp only at g
        rw [aFc_eq] at g
        obtain ⟨k', acc', m1, m2⟩ := ih _ _ _ g
        refine ⟨k', acc', m1, ?_⟩
        rw [m2, hc, Int.mul_add, ← Int.mul_assoc]
        omega
      | inl i =>
        dsimp only at g
        obtain ⟨j, c, g1, g2⟩ := bRv_ok hD _ _ _ _ g
        rw [aFc_eq] at g1
        obtain ⟨k', acc', m1, m2⟩ := ih _ _ _ g1
        refine ⟨k', acc', m1, ?_⟩
        have hi : bIv ι i = x.toInt := bIv_at hx
        rw [m2, bAc_ok, Int.mul_add, ← Int.mul_assoc, ← hi, show bIv ι i = bIv ι j + c by omega, Int.mul_add]
        omega
    · cases g
def bLb (G : List (Nat × Int × Int)) : List (Nat × Int) → Int
  | [] => 0
  | e :: r => (if 0 ≤ e.2 then e.2 * (bG G e.1).1 else e.2 * (bG G e.1).2) + bLb G r
theorem bIv_in {ι : List Value} {i : Nat} : ∀ {G : List (Nat × Int × Int)}, bmG ι G → aW (bIv ι i) (bG G i) := by
  intro G
  induction G with
  | nil =>
    intro _
    show aW (bIv ι i) aFull
    unfold bIv bV0
    split
    · exact aFull_ok _
    · exact ⟨by decide, by decide⟩
  | cons e r ih =>
    intro hG
    unfold bG
    cases hb : Nat.beq e.1 i with
    | true =>
      obtain ⟨x, h1, h2⟩ := hG e List.mem_cons_self
      rw [aBt hb] at h1
      rw [bIv_at h1]
      exact h2
    | false => exact ih (fun e he => hG e (List.mem_cons_of_mem _ he))
theorem bLb_ok {ι : List Value} {G : List (Nat × Int × Int)} (hG : bmG ι G) : ∀ l, bLb G l ≤ bSu ι l := by
  intro l
  induction l with
  | nil => exact Int.le_refl 0
  | cons e r ih =>
    have h0 := bIv_in (i := e.1) hG
    unfold aW at h0
    show (if 0 ≤ e.2 then e.2 * (bG G e.1).1 else e.2 * (bG G e.1).2) + bLb G r ≤ e.2 * bIv ι e.1 + bSu ι r
    have h1 : (if 0 ≤ e.2 then e.2 * (bG G e.1).1 else e.2 * (bG G e.1).2) ≤ e.2 * bIv ι e.1 := by
      split
      · rename_i hp
        exact Int.mul_le_mul_of_nonneg_left h0.1 hp
      · rename_i hp
        exact Int.mul_le_mul_of_nonpos_left (by omega) h0.2
    omega
theorem bSu_le {ι ι' : List Value} (a : bLe ι ι') : ∀ {l : List (Nat × Int)}, (∀ e ∈ l, e.1 < ι.length) → bSu ι' l = bSu ι l := by
  intro l
  induction l with
  | nil => intro _; rfl
  | cons e r ih =>
    intro hl
    obtain ⟨z, rfl⟩ := a
    show e.2 * bIv (ι ++ z) e.1 + bSu (ι ++ z) r = e.2 * bIv ι e.1 + bSu ι r
    rw [ih (fun e' he => hl e' (List.mem_cons_of_mem _ he))]
    unfold bIv
    rw [List.getElem?_append_left (hl e List.mem_cons_self)]
/-! heads -/
def bFtL (S : bS) : bLo → List (Option bTy) → Bool
  | [], ts => (match ts with
    | [] => true
    | _ => false)
  | o :: r, ts => (match ts with
    | [] => false
    | p :: s => (match p with
      | none => true
      | some t => (match o with
        | some v => bFit S v t
        | none => false)) && bFtL S r s)
theorem bFtL_ok {ι : List Value} {h : sHp} {S : bS} (q : bmS ι h S) : ∀ {L : bLo} {ts : List (Option bTy)} {vL : sLo}, bFtL S L ts = true → bmL ι h L vL → bTL h ts vL := by
  intro L
  induction L with
  | nil =>
    intro ts vL g hL
    cases ts with
    | nil => exact ⟨hL.1, fun i t hi => by cases hi⟩
    | cons p s => cases g
  | cons o r ih =>
    intro ts vL g hL
    cases ts with
    | nil => cases g
    | cons p s =>
      cases vL with
      | nil => cases hL.1
      | cons w vs =>
        replace g := aBa g
        obtain ⟨g1, g2⟩ := g
        have hL1 : bmL ι h r vs := ⟨Nat.succ.inj hL.1, fun i t hi => hL.2 (i + 1) t hi⟩
        have h2 := ih g2 hL1
        refine ⟨by rw [List.length_cons, List.length_cons, h2.1], fun i t hi => ?_⟩
        cases i with
        | zero =>
          have e : p = some t := Option.some.inj hi
          subst e
          dsimp only at g1
          split at g1
          · rename_i v
            obtain ⟨w1, e1, hv⟩ := hL.2 0 v rfl
            exact ⟨w1, e1, bFit_ok g1 q hv⟩
          · cases g1
        | succ i => exact h2.2 i t hi
def bAt (T2 : List bTp) (ko : Int) (ao : List (Nat × Int)) (pc : Nat) (L : bLo) (st : List bV) (S : bS) : Bool := T2.any (fun t => Nat.beq t.1 pc && (st.isEmpty && (Nat.beq S.2.1 0 && (bFtL S L t.2.1 && (bOvF S t.2.2.1 && bLn S.2.2.2.1 L (-1) t.2.2.2.2 (ko - t.2.2.2.1) ao (fun k acc => decide (1 ≤ k + bLb S.2.2.1 acc)))))))
/-- places from which the rest is known otherwise -/
def bAx (X : List bTp) (pc : Nat) (L : bLo) (st : List bV) (S : bS) : Bool := X.any (fun t => Nat.beq t.1 pc && (st.isEmpty && (Nat.beq S.2.1 0 && (bFtL S L t.2.1 && bOvF S t.2.2.1))))
def bPr (cn : bCn) (d : Nat) (t : bTp) : Prop := ∀ (h : sHp) (vL : sLo), bH h → bTL h t.2.1 vL → bOv h t.2.2.1 → sGo none cn.1 d t.1 vL [] h (fun r h' => bEn cn r h h')
theorem bEn_tr {cn : bCn} {h h1 h' : sHp} {r : Option Value} (a : bFr cn.2.2.2.2.1 0 h h1) (q : bEn cn r h1 h') : bEn cn r h h' := by
  refine ⟨q.1, ?_, q.2.2⟩
  have := bFr_trans a q.2.1
  rw [Nat.zero_add] at this
  exact this
def bKe (cn : bCn) : bKt := fun v S => Nat.ble S.2.1 cn.2.2.2.2.2.1 && cn.2.2.2.2.2.2.any (fun po => (match po.1 with
  | none => (match v with
    | none => true
    | some _ => false)
  | some t => (match v with
    | none => false
    | some v => bFit S v t)) && bOvF S po.2)
def bChk (sp : Bool) (T : List bCn) (cn : bCn) (q : sMt) (d : Nat) (X T2 : List bTp) (t : bTp) : Bool := bMkL t.2.1 (0, 0, [], [], [], [], []) (fun L S => bMkO t.2.2.1 S (fun S1 => bLn S1.2.2.2.1 L 1 t.2.2.2.2 t.2.2.2.1 [] (fun k acc => (decide (1 ≤ k + bLb S1.2.2.1 acc) && acc.all (fun e => Nat.blt e.1 S1.1)) && bRun false sp T cn.2.2.2.2.1 (fun pc L st S => bAt T2 k acc pc L st S || bAx X pc L st S) 3000 true d cn.1 q t.1 L [] S1 (bKe cn))))
theorem bmS_nil (h : sHp) : bmS [] h (0, 0, [], [], [], [], []) := ⟨rfl, (fun e he => by cases he), (fun e he => by cases he), (fun e he => by cases he), (fun e he => by cases he), (fun e he => by cases he)⟩
theorem bChk_ok {sp : Bool} {T : List bCn} {cn : bCn} {q : sMt} {d : Nat} {X T2 : List bTp} (hT : ∀ c ∈ T, bHolds c) (HX : ∀ x ∈ X, bPr cn d x) (hq : sM cn.1 = some q) (hc : ∀ t ∈ T2, bChk sp T cn q d X T2 t = true) : ∀ (n : Nat) (t : bTp), bChk sp T cn q d X T2 t = true → ∀ (h : sHp) (vL : sLo), bH h → bTL h t.2.1 vL → bOv h t.2.2.1 → (t.2.2.2.1 + bMs vL t.2.2.2.2).toNat < n → sGo none cn.1 d t.1 vL [] h (fun r h' => bEn cn r h h') := by
  intro n
  induction n with
  | zero => intro t _ h vL _ _ _ hn; omega
  | succ n ih =>
    intro t g h vL hH hL hO hn
    unfold bChk at g
    obtain ⟨ι1, S1, L, g1, -, q1, hL1, e1⟩ := bMkL_ok _ g (bmS_nil h) hL
    obtain ⟨ι2, S2, g2, l2, q2, e2⟩ := bMkO_ok _ g1 q1 hO
    have hL2 := bmL_mono l2 (bEx_refl h) hL1
    obtain ⟨k, acc, g3, e3⟩ := bLn_ok q2.2.2.1 hL2 _ _ _ _ g2
    replace g3 := aBa g3
    obtain ⟨g3, g4⟩ := g3
    replace g3 := aBa g3
    obtain ⟨g3, g5⟩ := g3
    replace g3 := of_decide_eq_true g3
    have hlb := bLb_ok q2.2.1 acc
    have e30 : bSu ι2 [] = 0 := rfl
    rw [e30] at e3
    have hg : S2.2.1 = 0 := e2.trans e1
    have hrun := bRun_ok (X := none) (h0 := h) (W := cn.2.2.2.2.1) (ι0 := ι2) (k0 := cn.1) (d0 := d) (K0 := bKe cn) (Q0 := fun r h' => bEn cn r h h') (c := false) (sp := sp) (T := T) (K2 := fun pc L st S => bAt T2 k acc pc L st S || bAx X pc L st S) ⟨(fun e => by cases e), fun _ => rfl⟩ hT ?_ ?_ 3000
    · exact hrun true d cn.1 q t.1 L [] S2 (bKe cn) g4 ι2 h vL [] hq (bLe_refl ι2) q2 hL2 trivial hH (by rw [hg]; exact bFr_refl _ _) (fun _ => ⟨rfl, rfl, rfl⟩)
    · intro pc L' st' S' ι' h' vL' vst' gk hle hS' hL' hs' hH' hF'
      rw [Bool.or_eq_true] at gk
      rcases gk with gk | gk
      rotate_left
      · unfold bAx at gk
        replace gk := List.any_eq_true.mp gk
        obtain ⟨x, hx, gk⟩ := gk
        obtain ⟨a1, gk⟩ := aBa gk
        obtain ⟨a2, gk⟩ := aBa gk
        obtain ⟨a3, gk⟩ := aBa gk
        obtain ⟨a4, a5⟩ := aBa gk
        have est : st' = [] := List.isEmpty_iff.mp a2
        subst est
        have evs := bmT1_nil hs'
        subst evs
        rw [← aBt a1]
        refine sGo_mono (HX x hx h' vL' hH' (bFtL_ok hS' a4 hL') (bOvF_ok a5 hS')) (fun r h'' hen => ?_)
        have e0 : S'.2.1 = 0 := aBt a3
        rw [e0] at hF'
        exact bEn_tr hF' hen
      unfold bAt at gk
      replace gk := List.any_eq_true.mp gk
      obtain ⟨t', ht', gk⟩ := gk
      replace gk := aBa gk
      obtain ⟨a1, gk⟩ := gk
      replace gk := aBa gk
      obtain ⟨a2, gk⟩ := gk
      replace gk := aBa gk
      obtain ⟨a3, gk⟩ := gk
      replace gk := aBa gk
      obtain ⟨a4, gk⟩ := gk
      replace gk := aBa gk
      obtain ⟨a5, gk⟩ := gk
      have est : st' = [] := List.isEmpty_iff.mp a2
      subst est
      have evs := bmT1_nil hs'
      subst evs
      obtain ⟨k', acc', b1, b2⟩ := bLn_ok hS'.2.2.1 hL' _ _ _ _ gk
      replace b1 := of_decide_eq_true b1
      have hlb' := bLb_ok hS'.2.1 acc'
      have hsu : bSu ι' acc = bSu ι2 acc := bSu_le hle (fun e he => by
        rw [q2.1]
        exact aBl (List.all_eq_true.mp g5 e he))
      have hlt : (t'.2.2.2.1 + bMs vL' t'.2.2.2.2).toNat < n := by omega
      rw [← aBt a1]
      refine sGo_mono (ih t' (hc t' ht') h' vL' hH' (bFtL_ok hS' a4 hL') (bOvF_ok a5 hS') hlt) ?_
      intro r h'' hen
      have e0 : S'.2.1 = 0 := aBt a3
      rw [e0] at hF'
      exact bEn_tr hF' hen
    · intro v S' ι' h' r gk hle hS' hH' hv hF'
      unfold bKe at gk
      replace gk := aBa gk
      obtain ⟨a1, gk⟩ := gk
      replace gk := List.any_eq_true.mp gk
      obtain ⟨po, hpo, gk⟩ := gk
      replace gk := aBa gk
      obtain ⟨a2, a3⟩ := gk
      refine ⟨hH', bFr_mono (bSb_refl _) (Nat.le_of_ble_eq_true a1) hF', po, hpo, ?_, bOvF_ok a3 hS'⟩
      unfold bRs
      split at a2
      · rename_i ep
        rw [ep]
        split at a2
        · cases r with
          | none => rfl
          | some w => exact hv.elim
        · cases a2
      · rename_i ty ep
        rw [ep]
        split at a2
        · cases a2
        · rename_i v1
          cases r with
          | none => exact hv.elim
          | some w => exact ⟨w, rfl, bFit_ok a2 hS' hv⟩
