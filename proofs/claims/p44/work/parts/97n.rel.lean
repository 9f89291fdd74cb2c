/-! ===== refusals: what a call does to the counts ===== -/
def bEnZ (R : Nat → Int32) (p : Nat) (an : Nat → Value) (cn : bCn) (r : Option Value) (h h' : sHp) : Prop := bEn cn r h h' ∨ ∃ X : Nat, (1 ≤ X ∧ X ≤ 7) ∧ h'[p]? = some (rFc (bump R X)) ∧ r = some (an X)
def bPrZ (R : Nat → Int32) (p : Nat) (an : Nat → Value) (cn : bCn) (d : Nat) (t : bTp) : Prop := ∀ (h : sHp) (vL : sLo), bH h → h[p]? = some (rFc R) → bTL h t.2.1 vL → bOv h t.2.2.1 → sGo none cn.1 d t.1 vL [] h (fun r h' => bEnZ R p an cn r h h')
def bHZ (R : Nat → Int32) (p : Nat) (an : Nat → Value) (c : bCn) : Prop := ∀ (h : sHp) (vs : List Value), bH h → h[p]? = some (rFc R) → bTl h c.2.2.1 vs → bOv h c.2.2.2.1 → sDo c.2.1 c.1 vs h (fun r h' => bEnZ R p an c r h h')
theorem bFr_rf {p W g : Nat} {R : Nat → Int32} {h h' : sHp} (hp : p = 43 ∨ p = 61) (a : bFr W g h h') (hW : W.testBit (p * 64) = false) (q : h[p]? = some (rFc R)) : h'[p]? = some (rFc R) := by
  rcases hp with rfl | rfl
  · exact bFr_arr a q (by decide) rfl hW
  · exact bFr_arr a q (by decide) rfl hW
theorem bEnZ_tr {R : Nat → Int32} {p : Nat} {an : Nat → Value} {cn : bCn} {h h1 h' : sHp} {r : Option Value} (a : bFr cn.2.2.2.2.1 0 h h1) (q : bEnZ R p an cn r h1 h') : bEnZ R p an cn r h h' := q.imp (bEn_tr a) id
theorem bChkZ_ok {R : Nat → Int32} {p : Nat} {an : Nat → Value} (hp : p = 43 ∨ p = 61) {sp : Bool} {T : List bCn} {cn : bCn} {q : sMt} {d : Nat} {X T2 : List bTp} (hW : cn.2.2.2.2.1.testBit (p * 64) = false) (hT : ∀ c ∈ T, bHolds c) (HX : ∀ x ∈ X, bPrZ R p an cn d x) (hq : sM cn.1 = some q) (hc : ∀ t ∈ T2, bChk sp T cn q d X T2 t = true) : ∀ (n : Nat) (t : bTp), bChk sp T cn q d X T2 t = true → ∀ (h : sHp) (vL : sLo), bH h → h[p]? = some (rFc R) → bTL h t.2.1 vL → bOv h t.2.2.1 → (t.2.2.2.1 + bMs vL t.2.2.2.2).toNat < n → sGo none cn.1 d t.1 vL [] h (fun r h' => bEnZ R p an cn r h h') := by
  intro n
  induction n with
  | zero => intro t _ h vL _ _ _ _ hn; omega
  | succ n ih =>
    intro t g h vL hH hR hL hO hn
    unfold bChk at g
    obtain ⟨ι1, S1, L, g1, -, q1, hL1, e1⟩ := bMkL_ok _ g (bmS_nil h) hL
    obtain ⟨ι2, S2, g2, l2, q2, e2⟩ := bMkO_ok _ g1 q1 hO
    have hL2 := bmL_mono l2 (bEx_refl h) hL1
    obtain ⟨k, acc, g3, e3⟩ := bLn_ok q2.2.2.1 hL2 _ _ _ _ g2
    replace g3 := aBa g3
    obtain ⟨g3, g4⟩ := g3
    replace g3 := aBa g3
    obtain ⟨g3, g5⟩ := g3
    replace g3 := of_decide_eq_true g3
    have hlb := bLb_ok q2.2.1 acc
    have e30 : bSu ι2 [] = 0 := rfl
    rw [e30] at e3
    have hg : S2.2.1 = 0 := e2.trans e1
    have hrun := bRun_ok (X := none) (h0 := h) (W := cn.2.2.2.2.1) (ι0 := ι2) (k0 := cn.1) (d0 := d) (K0 := bKe cn) (Q0 := fun r h' => bEnZ R p an cn r h h') (c := false) (sp := sp) (T := T) (K2 := fun pc L st S => bAt T2 k acc pc L st S || bAx X pc L st S) ⟨(fun e => by cases e), fun _ => rfl⟩ hT ?_ ?_ 3000
    · exact hrun true d cn.1 q t.1 L [] S2 (bKe cn) g4 ι2 h vL [] hq (bLe_refl ι2) q2 hL2 trivial hH (by rw [hg]; exact bFr_refl _ _) (fun _ => ⟨rfl, rfl, rfl⟩)
    · intro pc L' st' S' ι' h' vL' vst' gk hle hS' hL' hs' hH' hF'
      have hR' := bFr_rf hp hF' hW hR
      rw [Bool.or_eq_true] at gk
      rcases gk with gk | gk
      rotate_left
      · unfold bAx at gk
        replace gk := List.any_eq_true.mp gk
        obtain ⟨x, hx, gk⟩ := gk
        obtain ⟨a1, gk⟩ := aBa gk
        obtain ⟨a2, gk⟩ := aBa gk
        obtain ⟨a3, gk⟩ := aBa gk
        obtain ⟨a4, a5⟩ := aBa gk
        have est : st' = [] := List.isEmpty_iff.mp a2
        subst est
        have evs := bmT1_nil hs'
        subst evs
        rw [← aBt a1]
        refine sGo_mono (HX x hx h' vL' hH' hR' (bFtL_ok hS' a4 hL') (bOvF_ok a5 hS')) (fun r h'' hen => ?_)
        have e0 : S'.2.1 = 0 := aBt a3
        rw [e0] at hF'
        exact bEnZ_tr hF' hen
      unfold bAt at gk
      replace gk := List.any_eq_true.mp gk
      obtain ⟨t', ht', gk⟩ := gk
      replace gk := aBa gk
      obtain ⟨a1, gk⟩ := gk
      replace gk := aBa gk
      obtain ⟨a2, gk⟩ := gk
      replace gk := aBa gk
      obtain ⟨a3, gk⟩ := gk
      replace gk := aBa gk
      obtain ⟨a4, gk⟩ := gk
      replace gk := aBa gk
      obtain ⟨a5, gk⟩ := gk
      have est : st' = [] := List.isEmpty_iff.mp a2
      subst est
      have evs := bmT1_nil hs'
      subst evs
      obtain ⟨k', acc', b1, b2⟩ := bLn_ok hS'.2.2.1 hL' _ _ _ _ gk
      replace b1 := of_decide_eq_true b1
      have hlb' := bLb_ok hS'.2.1 acc'
      have hsu : bSu ι' acc = bSu ι2 acc := bSu_le hle (fun e he => by
        rw [q2.1]
        exact aBl (List.all_eq_true.mp g5 e he))
      have hlt : (t'.2.2.2.1 + bMs vL' t'.2.2.2.2).toNat < n := by omega
      rw [← aBt a1]
      refine sGo_mono (ih t' (hc t' ht') h' vL' hH' hR' (bFtL_ok hS' a4 hL') (bOvF_ok a5 hS') hlt) ?_
      intro r h'' hen
      have e0 : S'.2.1 = 0 := aBt a3
      rw [e0] at hF'
      exact bEnZ_tr hF' hen
    · intro v S' ι' h' r gk hle hS' hH' hv hF'
      unfold bKe at gk
      replace gk := aBa gk
      obtain ⟨a1, gk⟩ := gk
      replace gk := List.any_eq_true.mp gk
      obtain ⟨po, hpo, gk⟩ := gk
      replace gk := aBa gk
      obtain ⟨a2, a3⟩ := gk
      refine Or.inl ⟨hH', bFr_mono (bSb_refl _) (Nat.le_of_ble_eq_true a1) hF', po, hpo, ?_, bOvF_ok a3 hS'⟩
      unfold bRs
      split at a2
      · rename_i ep
        rw [ep]
        split at a2
        · cases r with
          | none => rfl
          | some w => exact hv.elim
        · cases a2
      · rename_i ty ep
        rw [ep]
        split at a2
        · cases a2
        · rename_i v1
          cases r with
          | none => exact hv.elim
          | some w => exact ⟨w, rfl, bFit_ok a2 hS' hv⟩
theorem bCkaZ_ok {R : Nat → Int32} {p : Nat} {an : Nat → Value} {sp : Bool} {T : List bCn} {cn : bCn} {X T2 : List bTp} {d : Nat} (hp : p = 43 ∨ p = 61) (hW : cn.2.2.2.2.1.testBit (p * 64) = false) (g : bCka sp T cn X T2 = true) (hd : cn.2.1 = d + 1) (hT : ∀ c ∈ T, bHolds c) (HX : ∀ x ∈ X, bPrZ R p an cn d x) : ∀ t ∈ T2, bPrZ R p an cn d t := by
  unfold bCka at g
  rw [hd] at g
  split at g
  · cases g
  · rename_i q hq
    rw [aNth_eq] at hq
    have hc := List.all_eq_true.mp g
    intro t ht h vL hH hR hL hO
    exact bChkZ_ok hp hW hT HX (show sM cn.1 = some q from hq) hc _ t (hc t ht) h vL hH hR hL hO (Nat.lt_succ_self _)
theorem bEtZ_ok {R : Nat → Int32} {p : Nat} {an : Nat → Value} {cn : bCn} {c0 : Int} {d : Nat} (hd : cn.2.1 = d + 1) (hs : Nat.ble (bSlt cn.2.2.1) ((sNk cn.1).getD 0) = true) (hn0 : (sNk cn.1).isSome = true) (pz : bPrZ R p an cn d (bEt cn c0)) : bHZ R p an cn := by
  intro h vs hH hR ht hO
  obtain ⟨k, dep, ts, pre, W, gr, ps⟩ := cn
  dsimp only at hd ht hO hs hn0
  subst hd
  obtain ⟨nL, hn⟩ := Option.isSome_iff_exists.mp hn0
  rw [hn] at hs
  have hs : bSlt ts ≤ nL := Nat.le_of_ble_eq_true hs
  obtain ⟨i1, i2⟩ := bIt_ok ts vs nL ht hs
  have hi : sIni nL vs = some (sIniA vs ++ List.replicate (nL - (sIniA vs).length) none) := by
    unfold sIni
    rw [if_pos ⟨bTl_nd ht, by rw [i1]; exact hs⟩]
  rw [← i1] at i2
  refine sDo_of hn hi (pz h _ hH hR ?_ hO)
  show bTL h (bIt ts ((sNk k).getD 0)) _
  rw [hn]
  exact i2
theorem bCkZ_ok {R : Nat → Int32} {p : Nat} {an : Nat → Value} {sp : Bool} {T : List bCn} {cn : bCn} {X : List bTp} {c0 : Int} {T2 : List bTp} {d : Nat} (hp : p = 43 ∨ p = 61) (hW : cn.2.2.2.2.1.testBit (p * 64) = false) (g : bCk sp T cn X c0 T2 = true) (hd : cn.2.1 = d + 1) (hT : ∀ c ∈ T, bHolds c) (HX : ∀ x ∈ X, bPrZ R p an cn d x) : bHZ R p an cn := by
  unfold bCk at g
  obtain ⟨g1, g2⟩ := aBa g
  obtain ⟨g1, g3⟩ := aBa g1
  exact bEtZ_ok hd g1 g3 (bCkaZ_ok hp hW g2 hd hT HX _ List.mem_cons_self)
