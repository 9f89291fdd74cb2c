/-! ===== the calls that a cut answers by its kind ===== -/
def sFpL : List (List (List Nat)) := [[[2219, 2217, 3007, 2220], [2219, 2217, 3007, 2227], [2219, 2217, 3007, 2218], [0, 0, 0, 0], [2219, 2217, 3007, 2231], [2219, 2217, 3007, 2235], [0, 0, 0, 0], [0, 0, 0, 0], [0, 0, 0, 0], [2219, 2217, 3007, 3002], [2219, 2217, 3007, 3003]], [[3017, 3015, 3057, 3018], [3017, 3015, 3057, 3025], [3017, 3015, 3057, 3016], [0, 0, 0, 0], [3017, 3015, 3057, 3037], [3017, 3015, 3057, 3044], [0, 0, 0, 0], [0, 0, 0, 0], [0, 0, 0, 0], [3017, 3015, 3057, 3048], [3017, 3015, 3057, 3052]], [[3065, 3063, 3075, 3066], [3065, 3063, 3075, 3067], [3065, 3063, 3075, 3064], [0, 0, 0, 0], [3065, 3063, 3075, 3068], [3065, 3063, 3075, 3069], [0, 0, 0, 0], [0, 0, 0, 0], [0, 0, 0, 0], [3065, 3063, 3075, 3073], [3065, 3063, 3075, 3074]], [[5088, 5086, 5111, 5089], [5088, 5086, 5111, 5101], [5088, 5086, 5111, 5087], [0, 0, 0, 0], [5088, 5086, 5111, 5102], [5088, 5086, 5111, 5103], [0, 0, 0, 0], [0, 0, 0, 0], [0, 0, 0, 0], [5088, 5086, 5111, 5104], [5088, 5086, 5111, 5105]], [[5116, 5114, 5134, 5117], [5116, 5114, 5134, 5122], [5116, 5114, 5134, 5115], [0, 0, 0, 0], [5116, 5114, 5134, 5127], [5116, 5114, 5134, 5128], [0, 0, 0, 0], [0, 0, 0, 0], [0, 0, 0, 0], [5116, 5114, 5134, 5129], [5116, 5114, 5134, 5130]], [[5139, 5137, 5155, 5140], [5139, 5137, 5155, 5141], [5139, 5137, 5155, 5138], [0, 0, 0, 0], [5139, 5137, 5155, 5142], [5139, 5137, 5155, 5148], [0, 0, 0, 0], [0, 0, 0, 0], [0, 0, 0, 0], [5139, 5137, 5155, 5153], [5139, 5137, 5155, 5154]]]
def sFamB (k ci p0 p1 p2 p3 : Nat) : Bool := match sM (sVt k ci), sM (sFn k) with
  | some z, some zx => decide (sVt k ci < 258 ∧ mA z = 1 ∧ mK z = 1 ∧ (parseMethodDescriptor (sFx k).desc).map (fun d => d.parameters.length) = some 1) && (sWi p0 (.sameMethod (sFx k).cls RX2 (sFx k).name (sFx k).desc) && (sWi p1 (.instanceMethod ⟨RX2, (sFx k).name, (sFx k).desc⟩) && (sWi p3 (.selects (sCN ci) (sFx k) (mY z)) && sWi p2 (.code ⟨RX2, (sFx k).name, (sFx k).desc⟩ (mC zx) (mN zx) (mR zx)))))
  | _, _ => false
def sFamC (k ci : Nat) : Bool := sGrp ci != 2 || (match ((sFpL[k - 1000]?).bind (fun r => r[ci]?)) with
  | some [p0, p1, p2, p3] => sFamB k ci p0 p1 p2 p3
  | _ => false)
theorem sFam_dec : ((List.range 6).all fun f => (List.range 11).all fun ci => sFamC (1000 + f) ci) = true := by decide +kernel
theorem sFam_of {k ci : Nat} (h1 : 1000 ≤ k) (h2 : k < 1006) (h3 : ci < 11) (h4 : sGrp ci = 2) : ∃ z zx, sM (sVt k ci) = some z ∧ sVt k ci < 258 ∧ mA z = 1 ∧ mK z = 1 ∧ (parseMethodDescriptor (sFx k).desc).map (fun d => d.parameters.length) = some 1 ∧ Jvm.Cond.sameMethod (sFx k).cls RX2 (sFx k).name (sFx k).desc ∈ sTB ∧ Jvm.Cond.instanceMethod ⟨RX2, (sFx k).name, (sFx k).desc⟩ ∈ sTB ∧ Jvm.Cond.selects (sCN ci) (sFx k) (mY z) ∈ sTB ∧ Jvm.Cond.code ⟨RX2, (sFx k).name, (sFx k).desc⟩ (mC zx) (mN zx) (mR zx) ∈ sTB := by
  have h := List.all_eq_true.mp (List.all_eq_true.mp sFam_dec (k - 1000) (List.mem_range.mpr (by omega))) ci (List.mem_range.mpr h3)
  rw [show 1000 + (k - 1000) = k by omega] at h
  unfold sFamC at h
  rw [h4, show ((2 : Nat) != 2) = false from rfl, Bool.false_or] at h
  split at h
  · unfold sFamB at h
    split at h
    · rename_i z zx e1 e2
      simp only [Bool.and_eq_true, decide_eq_true_eq] at h
      obtain ⟨⟨a1, a2, a3, a4⟩, b0, b1, b3, b2⟩ := h
      exact ⟨z, zx, e1, a1, a2, a3, a4, sWi_in b0, sWi_in b1, sWi_in b3, sWi_in b2⟩
    · cases h
  · cases h
