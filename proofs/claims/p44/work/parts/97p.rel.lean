/-! ===== refusal counts alike ===== -/
def RfT (h : sHp) : Prop := ∃ R Rm : Nat → Int32, h[43]? = some (rFc R) ∧ h[61]? = some (rFc Rm) ∧ ∀ X, X < 8 → R X = Rm X
def gV (v : Value) : Int := match v with
  | .int x => x.toInt
  | .long x => x.toInt
  | _ => 0
theorem bump_al {R Rm : Nat → Int32} {X : Nat} (h : ∀ X, X < 8 → R X = Rm X) (hX : X ≤ 7) : ∀ Y, Y < 8 → bump R X Y = bump Rm X Y := fun Y hY => by
  unfold bump
  by_cases e : Y = X
  · rw [e, u_at, u_at, h X (by omega)]
  · rw [u_ne e, u_ne e, h Y hY]
/-- the counts, with a refusal or none -/
def rfO : Option Nat → (Nat → Int32) → Nat → Int32
  | none, R => R
  | some X, R => bump R X
def rfK (o : Option Nat) : Prop := ∀ X, o = some X → X ≤ 7
theorem rfO_al {R Rm : Nat → Int32} {o : Option Nat} (h : ∀ X, X < 8 → R X = Rm X) (k : rfK o) : ∀ Y, Y < 8 → rfO o R Y = rfO o Rm Y := by
  cases o with
  | none => exact h
  | some X => exact bump_al h (k X rfl)
theorem rfK_0 : rfK none := fun _ z => by cases z
theorem rfK_1 {X : Nat} (h : X ≤ 7) : rfK (some X) := fun _ z => by cases z; exact h
def anI (an : Nat → Value) : Prop := ∀ X, X < 8 → ∀ Y, Y < 8 → gV (an X) = gV (an Y) → X = Y
theorem anI_N : anI anN := by unfold anI; decide +kernel
theorem anI_T : anI anT := by unfold anI; decide +kernel
theorem anI_L : anI anL := by unfold anI; decide +kernel
theorem anI_E : anI anE := by unfold anI; decide +kernel
theorem anI_P : anI anP := by unfold anI; decide +kernel
/-- which of the two: the answer is no refusal's, or both are refused alike -/
def sepd (an : Nat → Value) (k1 k2 : Nat) (as : List Value) (h : sHp) : Prop := (∃ v, sDo 10 k1 (.ref 0 :: as) h (fun r _ => r = some v) ∧ ∀ X, 1 ≤ X → X ≤ 7 → v ≠ an X) ∨ ∃ o : Option Nat, rfK o ∧ ∀ R, h[43]? = some (rFc R) → sDo 10 k1 (.ref 0 :: as) h (fun _ h1 => h1[43]? = some (rFc (rfO o R)) ∧ (bH h1 → ∀ Rm, h1[61]? = some (rFc Rm) → sDo 10 k2 (.ref 60 :: as) h1 (fun _ h2 => h2[61]? = some (rFc (rfO o Rm)))))
/-- the answers of a contract's ends are no refusal's -/
def noX (an : Nat → Value) (c : bCn) : Prop := ∀ (h : sHp) (r : Option Value), bPs h c.2.2.2.2.2.2 r → ∀ X, 1 ≤ X → X ≤ 7 → r ≠ some (an X)
theorem bFr_rg {p W g : Nat} {R : Nat → Int32} {h h' : sHp} (hp : p = 43 ∨ p = 61) (a : bFr W g h h') (hW : W.testBit (p * 64) = false) (q : h[p]? = some (rFc R)) : h'[p]? = some (rFc R) := bFr_rf hp a hW q
theorem pr_Z {Rl : sHp → Prop} {an : Nat → Value} {c1 c2 z1 z2 : bCn} {as : List Value} (p : pairR Rl c1.1 c2.1 as) (h1 : bHolds c1) (h2 : bHolds c2) (y1 : ∀ R, bHZ R 43 an z1) (y2 : ∀ R, bHZ R 61 an z2) (ai : anI an) (k1 : z1.1 = c1.1) (k2 : z2.1 = c2.1) (d1 : Nat.ble c1.2.1 10 = true) (d2 : Nat.ble c2.2.1 10 = true) (d3 : Nat.ble z1.2.1 10 = true) (d4 : Nat.ble z2.2.1 10 = true) (o1 : c1.2.2.2.1 = []) (o2 : c2.2.2.2.1 = []) (o3 : z1.2.2.2.1 = []) (o4 : z2.2.2.2.1 = []) (t1 : ∀ h, bH h → bTl h c1.2.2.1 (.ref 0 :: as)) (t2 : ∀ h, bH h → bTl h c2.2.2.1 (.ref 60 :: as)) (s1 : z1.2.2.1 = c1.2.2.1) (s2 : z2.2.2.1 = c2.2.2.1) (w1 : c1.2.2.2.2.1.testBit (61 * 64) = false) (w2 : c2.2.2.2.2.1.testBit (43 * 64) = false) (w3 : z1.2.2.2.2.1.testBit (43 * 64) = false) (w4 : z2.2.2.2.2.1.testBit (61 * 64) = false) (hs : ∀ h, bH h → Rl h → (noX an z1 ∧ noX an z2) ∨ sepd an c1.1 c2.1 as h) : pairR (fun h => Rl h ∧ RfT h) c1.1 c2.1 as := by
  intro h hH ⟨hR, R, Rm, r43, r61, eR⟩
  have nil : ∀ (h : sHp) (l : List (Nat × bTy)), l = [] → bOv h l := fun h l e => by
    subst e
    intro e he
    exact absurd he List.not_mem_nil
  have A := p h hH hR
  have B : sDo 10 c1.1 (.ref 0 :: as) h (fun r h' => bEnZ R 43 an z1 r h h') := by
    have := sDo_up (Nat.le_of_ble_eq_true d3) (y1 R h _ hH r43 (by rw [s1]; exact t1 h hH) (nil h _ o3))
    rw [k1] at this
    exact this
  have C := sDo_up (Nat.le_of_ble_eq_true d1) (h1 h _ hH (t1 h hH) (nil h _ o1))
  have S := hs h hH hR
  -- what the second call does
  have sec : ∀ (r1 : Option Value) (g : sHp), bH g → g[61]? = some (rFc Rm) → sDo 10 c2.1 (.ref 60 :: as) g (fun r2 g2 => bH g2 ∧ g2.length ≤ g.length + 1 ∧ Rl g2 ∧ ∃ x, r1 = some x ∧ r2 = some x) → sDo 10 c2.1 (.ref 60 :: as) g (fun r2 g2 => (bH g2 ∧ g2.length ≤ g.length + 1 ∧ Rl g2 ∧ ∃ x, r1 = some x ∧ r2 = some x) ∧ bEnZ Rm 61 an z2 r2 g g2 ∧ bEn c2 r2 g g2) := fun r1 g hg g61 q => by
    have D : sDo 10 c2.1 (.ref 60 :: as) g (fun r h' => bEnZ Rm 61 an z2 r g h') := by
      have := sDo_up (Nat.le_of_ble_eq_true d4) (y2 Rm g _ hg g61 (by rw [s2]; exact t2 g hg) (nil g _ o4))
      rw [k2] at this
      exact this
    exact sDo_and q (sDo_and D (sDo_up (Nat.le_of_ble_eq_true d2) (h2 g _ hg (t2 g hg) (nil g _ o2))))
  rcases S with ⟨n1, n2⟩ | ⟨v, V, nv⟩ | ⟨ob, hX, V⟩
  · refine sDo_mono (sDo_and A (sDo_and B C)) (fun r1 g q => ?_)
    obtain ⟨⟨hg, lg, q2⟩, qz, qc⟩ := q
    have g61 := bFr_rf (Or.inr rfl) qc.2.1 w1 r61
    refine ⟨hg, lg, sDo_mono (sec r1 g hg g61 q2) (fun r2 g2 q3 => ?_)⟩
    obtain ⟨⟨hg2, lg2, hR2, x, e1, e2⟩, pz, pc⟩ := q3
    refine ⟨hg2, lg2, ⟨hR2, ?_⟩, x, e1, e2⟩
    rcases qz with qz | ⟨X1, hX1, qz, ez⟩
    · have g43 := bFr_rf (Or.inl rfl) qz.2.1 w3 r43
      have k43 := bFr_rf (Or.inl rfl) pc.2.1 w2 g43
      rcases pz with pz | ⟨X2, hX2, pz, fz⟩
      · exact ⟨R, Rm, k43, bFr_rf (Or.inr rfl) pz.2.1 w4 g61, eR⟩
      · exact absurd (e1.trans (e2.symm.trans fz)) (n1 g r1 qz.2.2 X2 hX2.1 hX2.2)
    · have k43 := bFr_rf (Or.inl rfl) pc.2.1 w2 qz
      rcases pz with pz | ⟨X2, hX2, pz, fz⟩
      · exact absurd (e2.trans (e1.symm.trans ez)) (n2 g2 r2 pz.2.2 X1 hX1.1 hX1.2)
      · have e : X1 = X2 := ai X1 (by omega) X2 (by omega) (congrArg gV (Option.some.inj (ez.symm.trans (e1.trans (e2.symm.trans fz)))))
        subst e
        exact ⟨_, _, k43, pz, bump_al eR hX1.2⟩
  · refine sDo_mono (sDo_and (sDo_and A V) (sDo_and B C)) (fun r1 g q => ?_)
    obtain ⟨⟨⟨hg, lg, q2⟩, rv⟩, qz, qc⟩ := q
    have g61 := bFr_rf (Or.inr rfl) qc.2.1 w1 r61
    refine ⟨hg, lg, sDo_mono (sec r1 g hg g61 q2) (fun r2 g2 q3 => ?_)⟩
    obtain ⟨⟨hg2, lg2, hR2, x, e1, e2⟩, pz, pc⟩ := q3
    refine ⟨hg2, lg2, ⟨hR2, ?_⟩, x, e1, e2⟩
    rcases qz with qz | ⟨X1, hX1, qz, ez⟩
    · have g43 := bFr_rf (Or.inl rfl) qz.2.1 w3 r43
      have k43 := bFr_rf (Or.inl rfl) pc.2.1 w2 g43
      rcases pz with pz | ⟨X2, hX2, pz, fz⟩
      · exact ⟨R, Rm, k43, bFr_rf (Or.inr rfl) pz.2.1 w4 g61, eR⟩
      · exact absurd (Option.some.inj (rv.symm.trans (e1.trans (e2.symm.trans fz)))) (nv X2 hX2.1 hX2.2)
    · exact absurd (Option.some.inj (rv.symm.trans ez)) (nv X1 hX1.1 hX1.2)
  · refine sDo_mono (sDo_and (sDo_and A (V R r43)) C) (fun r1 g q => ?_)
    obtain ⟨⟨⟨hg, lg, q2⟩, g43, q5⟩, qc⟩ := q
    have g61 := bFr_rf (Or.inr rfl) qc.2.1 w1 r61
    refine ⟨hg, lg, sDo_mono (sDo_and (sec r1 g hg g61 q2) (q5 hg Rm g61)) (fun r2 g2 q3 => ?_)⟩
    obtain ⟨⟨⟨hg2, lg2, hR2, x, e1, e2⟩, -, pc⟩, p61⟩ := q3
    exact ⟨hg2, lg2, ⟨hR2, _, _, bFr_rf (Or.inl rfl) pc.2.1 w2 g43, p61, rfO_al eR hX⟩, x, e1, e2⟩
