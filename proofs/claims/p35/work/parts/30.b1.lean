/-! ===== the second executor: kinds of places, their types, what stays ===== -/
abbrev bN : Type := Nat ⊕ Int
abbrev bV : Type := bN ⊕ (Nat × Nat)
abbrev bTy : Type := (Int × Int) ⊕ (Nat × Nat)
abbrev bCt : Type := (Nat × Nat × bTy × List Int) ⊕ (Nat × List bTy)
def bKl : List Nat := [0, 1, 2, 3, 4, 5, 6, 7, 8, 82, 82, 82, 82, 82, 14, 15, 16, 17, 18, 19, 83, 83, 83, 83, 83, 25, 26, 27, 28, 29, 30, 84, 84, 84, 84, 84, 36, 37, 38, 39, 40, 41, 42, 43, 80, 81, 80, 81, 80, 81, 80, 81, 80, 81, 80, 81, 80, 81, 80, 81, 60, 61, 62, 63, 64, 65, 66, 67, 68, 69, 70, 71, 72, 73, 74, 75, 76, 77, 78]
def bG0 : List (Option bCt) := [some (.inr (11, [.inr (2, 1), .inr (2, 2), .inr (2, 3), .inr (2, 5), .inr (2, 16), .inr (2, 27), .inr (2, 38), .inr (2, 42), .inr (2, 43), .inl (.ofNat 0, .ofNat 1), .inl (.negSucc 2147483647, .ofNat 2147483647)])), some (.inl (3, 8, .inr (2, 80), [])), some (.inl (4, 8, .inr (3, 113), [])), some (.inr (7, [.inl (.negSucc 0, .ofNat 3), .inl (.ofNat 0, .ofNat 100), .inr (2, 4)])), some (.inl (1, 100, .inr (0, 0), [])), some (.inr (3, [.inl (.ofNat 2, .ofNat 8), .inl (.ofNat 2, .ofNat 8), .inr (0, 0), .inr (0, 0), .inr (0, 0), .inr (0, 0), .inr (0, 0), .inl (.negSucc 2147483647, .ofNat 2147483647), .inl (.negSucc 0, .ofNat 63), .inl (.negSucc 0, .ofNat 63), .inl (.negSucc 2147483647, .ofNat 2147483647), .inl (.ofNat 0, .ofNat 5), .inr (2, 6), .inr (2, 7), .inr (2, 8), .inr (2, 14), .inr (2, 15)])), some (.inl (1, 6, .inr (0, 0), [])), some (.inl (0, 5, .inl (.negSucc 2147483647, .ofNat 2147483647), [])), some (.inl (5, 5, .inr (2, 82), [])), none, none, none, none, none, some (.inl (2, 5, .inl (.ofNat 0, .ofNat 1), [])), some (.inl (1, 7, .inr (0, 0), []))]
def bG1 : List (Option bCt) := [some (.inr (3, [.inl (.ofNat 2, .ofNat 8), .inl (.ofNat 2, .ofNat 8), .inr (0, 0), .inr (0, 0), .inr (0, 0), .inr (0, 0), .inr (0, 0), .inl (.negSucc 2147483647, .ofNat 2147483647), .inl (.negSucc 0, .ofNat 63), .inl (.negSucc 0, .ofNat 63), .inl (.negSucc 2147483647, .ofNat 2147483647), .inl (.ofNat 0, .ofNat 5), .inr (2, 17), .inr (2, 18), .inr (2, 19), .inr (2, 25), .inr (2, 26)])), some (.inl (1, 6, .inr (0, 0), [])), some (.inl (0, 5, .inl (.negSucc 2147483647, .ofNat 2147483647), [])), some (.inl (5, 5, .inr (2, 83), [])), none, none, none, none, none, some (.inl (2, 5, .inl (.ofNat 0, .ofNat 1), [])), some (.inl (1, 7, .inr (0, 0), [])), some (.inr (3, [.inl (.ofNat 2, .ofNat 8), .inl (.ofNat 2, .ofNat 8), .inr (0, 0), .inr (0, 0), .inr (0, 0), .inr (0, 0), .inr (0, 0), .inl (.negSucc 2147483647, .ofNat 2147483647), .inl (.negSucc 0, .ofNat 63), .inl (.negSucc 0, .ofNat 63), .inl (.negSucc 2147483647, .ofNat 2147483647), .inl (.ofNat 0, .ofNat 5), .inr (2, 28), .inr (2, 29), .inr (2, 30), .inr (2, 36), .inr (2, 37)])), some (.inl (1, 6, .inr (0, 0), [])), some (.inl (0, 5, .inl (.negSucc 2147483647, .ofNat 2147483647), [])), some (.inl (5, 5, .inr (2, 84), [])), none]
def bG2 : List (Option bCt) := [none, none, none, none, some (.inl (2, 5, .inl (.ofNat 0, .ofNat 1), [])), some (.inl (1, 7, .inr (0, 0), [])), some (.inr (8, [.inl (.negSucc 2147483647, .ofNat 2147483647), .inl (.negSucc 2147483647, .ofNat 2147483647), .inr (0, 0), .inr (0, 0), .inl (.negSucc 2147483647, .ofNat 2147483647), .inl (.negSucc 2147483647, .ofNat 2147483647), .inl (.ofNat 0, .ofNat 644), .inr (2, 39), .inr (2, 40), .inr (2, 41)])), some (.inl (0, 644, .inl (.negSucc 2147483647, .ofNat 2147483647), [])), some (.inl (1, 644, .inr (0, 0), [])), some (.inl (1, 7, .inr (0, 0), [])), some (.inl (1, 7, .inr (0, 0), [])), some (.inl (0, 8, .inl (.negSucc 2147483647, .ofNat 2147483647), [])), none, none, none, none]
def bG3 : List (Option bCt) := [none, none, none, none, none, none, none, none, none, none, none, none, some (.inr (12, [.inl (.ofNat 2, .ofNat 8), .inl (.ofNat 2, .ofNat 8), .inl (.negSucc 2147483647, .ofNat 2147483647), .inl (.negSucc 0, .ofNat 63), .inl (.negSucc 0, .ofNat 63), .inl (.negSucc 2147483647, .ofNat 2147483647), .inl (.ofNat 0, .ofNat 5), .inl (.negSucc 2147483647, .ofNat 2147483647), .inr (2, 61), .inr (2, 62), .inr (2, 63), .inr (2, 64), .inr (2, 65), .inr (2, 66), .inr (2, 67), .inr (2, 68), .inr (2, 69), .inr (2, 70), .inr (2, 71), .inr (2, 72), .inr (2, 73), .inl (.ofNat 0, .ofNat 700), .inl (.ofNat 0, .ofNat 100), .inl (.ofNat 0, .ofNat 100), .inl (.negSucc 2147483647, .ofNat 2147483647), .inl (.negSucc 2147483647, .ofNat 2147483647), .inr (2, 74), .inr (2, 75), .inl (.negSucc 2147483647, .ofNat 2147483647), .inr (2, 76), .inr (2, 77), .inl (.ofNat 0, .ofNat 999), .inl (.negSucc 2147483647, .ofNat 2147483647), .inl (.negSucc 2147483647, .ofNat 2147483647), .inl (.negSucc 2147483647, .ofNat 2147483647), .inr (2, 78), .inl (.ofNat 0, .ofNat 20), .inl (.ofNat 0, .ofNat 1)])), some (.inl (0, 8, .inl (.negSucc 2147483647, .ofNat 2147483647), [])), some (.inl (0, 64, .inl (.ofNat 0, .ofNat 5), [])), some (.inl (0, 64, .inl (.negSucc 2147483647, .ofNat 2147483647), []))]
def bG4 : List (Option bCt) := [some (.inl (0, 5, .inl (.ofNat 0, .ofNat 9), [])), some (.inl (0, 5, .inl (.negSucc 2147483647, .ofNat 2147483647), [])), some (.inl (0, 30, .inl (.negSucc 2147483647, .ofNat 2147483647), [])), some (.inl (0, 8, .inl (.ofNat 0, .ofNat 2), [])), some (.inl (0, 8, .inl (.negSucc 2147483647, .ofNat 2147483647), [])), some (.inl (0, 8, .inl (.ofNat 0, .ofNat 100), [])), some (.inl (0, 8, .inl (.negSucc 2147483647, .ofNat 2147483647), [])), some (.inl (1, 800, .inr (0, 0), [])), some (.inl (1, 100, .inr (0, 0), [])), some (.inl (0, 42, .inl (.ofNat 0, .ofNat 255), [.ofNat 115, .ofNat 105, .ofNat 122, .ofNat 101, .ofNat 32, .ofNat 0, .ofNat 115, .ofNat 111, .ofNat 105, .ofNat 108, .ofNat 32, .ofNat 0, .ofNat 114, .ofNat 111, .ofNat 97, .ofNat 100, .ofNat 32, .ofNat 0, .ofNat 119, .ofNat 101, .ofNat 108, .ofNat 108, .ofNat 32, .ofNat 0, .ofNat 111, .ofNat 97, .ofNat 107, .ofNat 32, .ofNat 0, .ofNat 115, .ofNat 109, .ofNat 97, .ofNat 108, .ofNat 108, .ofNat 32, .ofNat 0, .ofNat 104, .ofNat 101, .ofNat 105, .ofNat 114, .ofNat 32, .ofNat 0])), some (.inl (0, 180, .inl (.negSucc 2147483647, .ofNat 2147483647), [])), some (.inl (0, 180, .inl (.negSucc 2147483647, .ofNat 2147483647), [])), some (.inl (0, 1000, .inl (.negSucc 2147483647, .ofNat 2147483647), [])), some (.inl (0, 64, .inl (.negSucc 2147483647, .ofNat 2147483647), [])), some (.inl (0, 20, .inl (.negSucc 2147483647, .ofNat 2147483647), [])), none]
def bG5 : List (Option bCt) := [some (.inr (7, [.inl (.negSucc 0, .ofNat 3), .inl (.ofNat 0, .ofNat 100), .inr (2, 81)])), some (.inl (1, 100, .inr (0, 0), [])), some (.inl (0, 6, .inl (.negSucc 2147483647, .ofNat 2147483647), [])), some (.inl (0, 6, .inl (.negSucc 2147483647, .ofNat 2147483647), [])), some (.inl (0, 6, .inl (.negSucc 2147483647, .ofNat 2147483647), [])), none, none, none, none, none, none, none, none, none, none, none]
def bG6 : List (Option bCt) := [none, none, none, none, some (.inr (0, [.inl (.negSucc 2147483647, .ofNat 2147483647), .inl (.ofNat 0, .ofNat 7), .inl (.negSucc 2147483647, .ofNat 2147483647), .inl (.negSucc 2147483647, .ofNat 2147483647), .inl (.negSucc 2147483647, .ofNat 2147483647), .inr (2, 3)])), some (.inr (1, [.inl (.negSucc 2147483647, .ofNat 2147483647), .inl (.ofNat 0, .ofNat 7), .inl (.negSucc 2147483647, .ofNat 2147483647), .inl (.negSucc 2147483647, .ofNat 2147483647), .inl (.negSucc 2147483647, .ofNat 2147483647), .inr (2, 3)])), some (.inr (2, [.inl (.negSucc 2147483647, .ofNat 2147483647), .inl (.ofNat 0, .ofNat 7), .inl (.negSucc 2147483647, .ofNat 2147483647), .inl (.negSucc 2147483647, .ofNat 2147483647), .inl (.negSucc 2147483647, .ofNat 2147483647), .inr (2, 3)])), none, some (.inr (4, [.inl (.negSucc 2147483647, .ofNat 2147483647), .inl (.ofNat 0, .ofNat 7), .inl (.negSucc 2147483647, .ofNat 2147483647), .inl (.negSucc 2147483647, .ofNat 2147483647), .inl (.negSucc 2147483647, .ofNat 2147483647), .inr (2, 3)])), some (.inr (5, [.inl (.negSucc 2147483647, .ofNat 2147483647), .inl (.ofNat 0, .ofNat 7), .inl (.negSucc 2147483647, .ofNat 2147483647), .inl (.negSucc 2147483647, .ofNat 2147483647), .inl (.negSucc 2147483647, .ofNat 2147483647), .inr (2, 3)])), some (.inr (6, [.inl (.negSucc 2147483647, .ofNat 2147483647), .inr (2, 80), .inr (2, 27), .inl (.negSucc 2147483647, .ofNat 2147483647)])), none, none, some (.inr (9, [.inl (.negSucc 2147483647, .ofNat 2147483647), .inl (.ofNat 0, .ofNat 7), .inl (.negSucc 2147483647, .ofNat 2147483647), .inl (.negSucc 2147483647, .ofNat 2147483647), .inl (.negSucc 2147483647, .ofNat 2147483647), .inr (2, 3)])), some (.inr (10, [.inl (.negSucc 2147483647, .ofNat 2147483647), .inl (.ofNat 0, .ofNat 7), .inl (.negSucc 2147483647, .ofNat 2147483647), .inl (.negSucc 2147483647, .ofNat 2147483647), .inl (.negSucc 2147483647, .ofNat 2147483647), .inr (2, 3)])), none]
def bG7 : List (Option bCt) := [none, none, none, none, none, none, none, none, none, none, none, none, none, none, none, none]
def bGl : List (List (Option bCt)) := [bG0, bG1, bG2, bG3, bG4, bG5, bG6, bG7]
def bKp (p : Nat) (c : va_E) : Nat := match bKl[p]? with
  | some K => K
  | none => (match c with
    | .inr (ci, _) => 100 + ci
    | .inl _ => 99)
def bIsC (κ : Nat) : Bool := Nat.beq κ 100 || (Nat.beq κ 101 || (Nat.beq κ 102 || (Nat.beq κ 104 || (Nat.beq κ 105 || (Nat.beq κ 109 || Nat.beq κ 110)))))
def bKK (κ K : Nat) : Bool := Nat.beq κ K || (Nat.beq K 113 && bIsC κ)
def bGam (K : Nat) : Option bCt := match aNth bGl (K / 16) with
  | some r => (match aNth r (K % 16) with
    | some o => o
    | none => none)
  | none => none
def bKd (K : Nat) : Nat := bif Nat.beq K 113 then 102 else K
def bIn (h : sHp) (K p : Nat) : Prop := (∃ c, h[p]? = some c ∧ bKK (bKp p c) K = true) ∨ (K = 300 ∧ p = 1000000) ∨ (400 ≤ K ∧ p = 2000000 + (K - 400))
def bT (h : sHp) (t : bTy) (w : Value) : Prop := match t with
  | .inl (lo, hi) => ∃ x, w = .int x ∧ lo ≤ x.toInt ∧ x.toInt ≤ hi
  | .inr (0, _) => ∃ x, w = .long x
  | .inr (1, _) => w = .null
  | .inr (2, K) => ∃ p, w = .ref p ∧ bIn h K p
  | .inr (_, K) => w = .null ∨ ∃ p, w = .ref p ∧ bIn h K p
def bCm (h : sHp) (ct : bCt) (c : va_E) : Prop := match ct with
  | .inl (t, n, .inl (lo, hi), cs) => ∃ f, c = .inl (t, n, .inl f) ∧ (∀ i, i < n → lo ≤ (f i).toInt ∧ (f i).toInt ≤ hi) ∧ (∀ i z, cs[i]? = some z → (f i).toInt = z)
  | .inl (t, n, .inr (0, _), _) => ∃ f, c = .inl (t, n, .inr (.inl f))
  | .inl (t, n, .inr (k + 1, K), _) => ∃ f, c = .inl (t, n, .inr (.inr (.inr (.inr f)))) ∧ ∀ i, i < n → bT h (.inr (k + 1, K)) (va_rf (f i))
  | .inr (ci, tys) => ∃ fs : List Value, c = .inr (ci, fs) ∧ fs.length = tys.length ∧ ∀ (j : Nat) (ty : bTy), tys[j]? = some ty → ∃ v : Value, fs[j]? = some v ∧ bT h ty v
def bVi (o : Option Value) : Int := match o with
  | some (.int x) => x.toInt
  | _ => 0
/-- what else stays true: a kept image is good; the first heir's share, once there is one -/
def bGd (g : Nat → Int32) : Prop := (∀ i, i < 64 → 0 ≤ (g i).toInt ∧ (g i).toInt ≤ 5) ∧ (∀ i, i < 5 → 0 ≤ (g (128 + i)).toInt ∧ (g (128 + i)).toInt ≤ 9) ∧ (2 ≤ (g 168).toInt ∧ (g 168).toInt ≤ 8) ∧ (2 ≤ (g 169).toInt ∧ (g 169).toInt ≤ 8) ∧ (-1 ≤ (g 171).toInt ∧ (g 171).toInt ≤ 63) ∧ (-1 ≤ (g 172).toInt ∧ (g 172).toInt ≤ 63) ∧ (0 ≤ (g 174).toInt ∧ (g 174).toInt ≤ 5) ∧ (1 ≤ (g 174).toInt → 1 ≤ (g 128).toInt)
def bP (h : sHp) : Prop := ∃ (fs : List Value) (f g : Nat → Int32), h[60]? = some (.inr (12, fs)) ∧ h[64]? = some (.inl (0, 5, .inl f)) ∧ h[75]? = some (.inl (0, 180, .inl g)) ∧ (1 ≤ bVi fs[6]? → 1 ≤ (f 0).toInt) ∧ (bVi fs[37]? ≠ 0 → bGd g)
def bPk (k : Nat) : Bool := Nat.beq k 3846 || (Nat.beq k 3877 || (Nat.beq k 4096 || Nat.beq k 4800))
def bH (h : sHp) : Prop := 79 ≤ h.length ∧ (∀ p c, h[p]? = some c → ∃ ct, bGam (bKp p c) = some ct ∧ bCm h ct c) ∧ bP h
/-- what stays of a cell, but for the marked ones; a number falls only where that is marked too -/
def bCf (W K : Nat) (c c' : va_E) : Prop := match c, c' with
  | .inl (t, n, d), .inl (t', n', d') => t' = t ∧ n' = n ∧ (W.testBit (K * 64) = false → d' = d)
  | .inr (ci, fs), .inr (ci', fs') => ci' = ci ∧ fs'.length = fs.length ∧ (∀ (j : Nat), W.testBit (K * 64 + j) = false → fs'[j]? = fs[j]?) ∧ ∀ (j : Nat), W.testBit (K * 64 + j + 8192) = false → bVi fs[j]? ≤ bVi fs'[j]?
  | _, _ => False
def bFr (W g : Nat) (h h' : sHp) : Prop := h.length ≤ h'.length ∧ h'.length ≤ h.length + g ∧ ∀ p c, h[p]? = some c → ∃ c', h'[p]? = some c' ∧ bCf W (bKp p c) c c'
def bEx (h h' : sHp) : Prop := ∀ p c, h[p]? = some c → ∃ c', h'[p]? = some c' ∧ bKp p c' = bKp p c
theorem bCf_k {W K p : Nat} {c c' : va_E} (h : bCf W K c c') : bKp p c' = bKp p c := by
  unfold bCf at h
  split at h
  · unfold bKp; rfl
  · obtain ⟨rfl, -⟩ := h
    unfold bKp; rfl
  · exact h.elim
theorem bCf_refl (W K : Nat) (c : va_E) : bCf W K c c := by
  rcases c with ⟨t, n, d⟩ | ⟨ci, fs⟩
  · exact ⟨rfl, rfl, fun _ => rfl⟩
  · exact ⟨rfl, rfl, fun _ _ => rfl, fun _ _ => Int.le_refl _⟩
theorem bCf_trans {W K : Nat} {c c' c'' : va_E} (h : bCf W K c c') (h' : bCf W K c' c'') : bCf W K c c'' := by
  rcases c with ⟨t, n, d⟩ | ⟨ci, fs⟩ <;> rcases c' with ⟨t', n', d'⟩ | ⟨ci', fs'⟩ <;> rcases c'' with ⟨t'', n'', d''⟩ | ⟨ci'', fs''⟩ <;> first | exact h.elim | exact h'.elim | skip
  · exact ⟨h'.1.trans h.1, h'.2.1.trans h.2.1, fun q => (h'.2.2 q).trans (h.2.2 q)⟩
  · exact ⟨h'.1.trans h.1, h'.2.1.trans h.2.1, fun j q => (h'.2.2.1 j q).trans (h.2.2.1 j q), fun j q => Int.le_trans (h.2.2.2 j q) (h'.2.2.2 j q)⟩
def bSb (W W' : Nat) : Prop := ∀ i, W'.testBit i = false → W.testBit i = false
theorem bSb_of {W W' : Nat} (h : Nat.beq (W ||| W') W' = true) : bSb W W' := by
  intro i hi
  have e := Nat.eq_of_beq_eq_true h
  have h2 : (W ||| W').testBit i = W'.testBit i := by rw [e]
  rw [Nat.testBit_or, hi] at h2
  cases hw : W.testBit i with
  | false => rfl
  | true => rw [hw] at h2; cases h2
theorem bCf_mono {W W' K : Nat} {c c' : va_E} (hs : bSb W W') (h : bCf W K c c') : bCf W' K c c' := by
  rcases c with ⟨t, n, d⟩ | ⟨ci, fs⟩ <;> rcases c' with ⟨t', n', d'⟩ | ⟨ci', fs'⟩ <;> first | exact h.elim | skip
  · exact ⟨h.1, h.2.1, fun q => h.2.2 (hs _ q)⟩
  · exact ⟨h.1, h.2.1, fun j q => h.2.2.1 j (hs _ q), fun j q => h.2.2.2 j (hs _ q)⟩
theorem bFr_refl (W : Nat) (h : sHp) : bFr W 0 h h := ⟨Nat.le_refl _, Nat.le_refl _, fun _ c hc => ⟨c, hc, bCf_refl _ _ _⟩⟩
theorem bFr_trans {W g g' : Nat} {h h' h'' : sHp} (a : bFr W g h h') (b : bFr W g' h' h'') : bFr W (g + g') h h'' := by
  refine ⟨Nat.le_trans a.1 b.1, by have := a.2.1; have := b.2.1; omega, fun p c hc => ?_⟩
  obtain ⟨c', h1, h2⟩ := a.2.2 p c hc
  obtain ⟨c'', h3, h4⟩ := b.2.2 p c' h1
  rw [bCf_k h2] at h4
  exact ⟨c'', h3, bCf_trans h2 h4⟩
theorem bFr_mono {W W' g g' : Nat} {h h' : sHp} (hs : bSb W W') (hg : g ≤ g') (a : bFr W g h h') : bFr W' g' h h' := by
  refine ⟨a.1, by have := a.2.1; omega, fun p c hc => ?_⟩
  obtain ⟨c', h1, h2⟩ := a.2.2 p c hc
  exact ⟨c', h1, bCf_mono hs h2⟩
theorem bSb_refl (W : Nat) : bSb W W := fun _ h => h
theorem bEx_of {W g : Nat} {h h' : sHp} (a : bFr W g h h') : bEx h h' := fun p c hc => by
  obtain ⟨c', h1, h2⟩ := a.2.2 p c hc
  exact ⟨c', h1, bCf_k h2⟩
theorem bEx_refl (h : sHp) : bEx h h := fun _ c hc => ⟨c, hc, rfl⟩
theorem bEx_trans {h h' h'' : sHp} (a : bEx h h') (b : bEx h' h'') : bEx h h'' := fun p c hc => by
  obtain ⟨c', h1, h2⟩ := a p c hc
  obtain ⟨c'', h3, h4⟩ := b p c' h1
  exact ⟨c'', h3, h4.trans h2⟩
theorem bIn_mono {h h' : sHp} (a : bEx h h') {K p : Nat} (q : bIn h K p) : bIn h' K p := by
  rcases q with ⟨c, h1, h2⟩ | q
  · obtain ⟨c', h3, h4⟩ := a p c h1
    exact Or.inl ⟨c', h3, by rw [h4]; exact h2⟩
  · exact Or.inr q
theorem bT_mono {h h' : sHp} (a : bEx h h') {t : bTy} {w : Value} (q : bT h t w) : bT h' t w := by
  unfold bT at q ⊢
  split at q
  · exact q
  · exact q
  · exact q
  · obtain ⟨p, e, hp⟩ := q
    exact ⟨p, e, bIn_mono a hp⟩
  · rename_i k K n0 n1 n2
    have q' : w = .null ∨ ∃ p, w = .ref p ∧ bIn h' K p := q.imp id (fun ⟨p, e, hp⟩ => ⟨p, e, bIn_mono a hp⟩)
    match k, n0, n1, n2, q' with
    | 0, n0, _, _, _ => exact (n0 rfl).elim
    | 1, _, n1, _, _ => exact (n1 rfl).elim
    | 2, _, _, n2, _ => exact (n2 rfl).elim
    | k + 3, _, _, _, q' => exact q'
theorem bCm_mono {h h' : sHp} (a : bEx h h') {ct : bCt} {c : va_E} (q : bCm h ct c) : bCm h' ct c := by
  unfold bCm at q ⊢
  split at q
  · exact q
  · exact q
  · obtain ⟨f, e, hf⟩ := q
    exact ⟨f, e, fun i hi => bT_mono a (hf i hi)⟩
  · obtain ⟨fs, e, el, hf⟩ := q
    exact ⟨fs, e, el, fun j ty hj => by
      obtain ⟨v, h1, h2⟩ := hf j ty hj
      exact ⟨v, h1, bT_mono a h2⟩⟩
/-! cells by kind -/
theorem bGam_lt {K : Nat} {ct : bCt} (h : bGam K = some ct) : K < 128 := by
  unfold bGam at h
  cases hr : aNth bGl (K / 16) with
  | none => rw [hr] at h; cases h
  | some r =>
    rw [aNth_eq] at hr
    have := (List.getElem?_eq_some_iff.mp hr).1
    have e : bGl.length = 8 := rfl
    omega
theorem bIn_at {h : sHp} {K p : Nat} {ct : bCt} (q : bIn h K p) (hg : bGam (bKd K) = some ct) : ∃ c, h[p]? = some c ∧ bKK (bKp p c) K = true := by
  rcases q with q | ⟨rfl, -⟩ | ⟨h1, -⟩
  · exact q
  · exact absurd (bGam_lt hg) (by decide)
  · have h2 := bGam_lt hg
    unfold bKd at h2
    rw [aBq, decide_eq_false (show ¬ K = 113 by omega)] at h2
    dsimp only [cond] at h2
    omega
theorem bIsC_cases {κ : Nat} (h : bIsC κ = true) : κ = 100 ∨ κ = 101 ∨ κ = 102 ∨ κ = 104 ∨ κ = 105 ∨ κ = 109 ∨ κ = 110 := by
  unfold bIsC at h
  simp only [aBq, Bool.or_eq_true, decide_eq_true_eq] at h
  exact h
theorem bKK_cases {κ K : Nat} (h : bKK κ K = true) : κ = K ∨ (K = 113 ∧ bIsC κ = true) := by
  unfold bKK at h
  simp only [aBq, Bool.or_eq_true, Bool.and_eq_true, decide_eq_true_eq] at h
  exact h
theorem bKd_ne {K : Nat} (h : K ≠ 113) : bKd K = K := by
  unfold bKd
  rw [aBq, decide_eq_false h]; rfl
/-- an object's cell -/
theorem bIn_obj {h : sHp} {K p ci0 : Nat} {tys : List bTy} (hH : bH h) (q : bIn h K p) (hg : bGam (bKd K) = some (.inr (ci0, tys))) : ∃ (ci : Nat) (fs : List Value), h[p]? = some (.inr (ci, fs)) ∧ sGrp ci = sGrp ci0 ∧ (K ≠ 113 → ci = ci0) ∧ fs.length = tys.length ∧ (∀ (j : Nat) (ty : bTy), tys[j]? = some ty → ∃ v : Value, fs[j]? = some v ∧ bT h ty v) ∧ bGam (bKp p (.inr (ci, fs))) = some (.inr (ci, tys)) ∧ bKK (bKp p (.inr (ci, fs))) K = true := by
  obtain ⟨c, hc, hk⟩ := bIn_at q hg
  obtain ⟨ct, h1, h2⟩ := hH.2.1 p c hc
  rcases bKK_cases hk with e | ⟨rfl, e⟩
  · have hK : K ≠ 113 := by
      intro z
      subst z
      rw [e] at h1
      exact absurd h1 (by intro z; cases z)
    rw [bKd_ne hK] at hg
    rw [e, hg] at h1
    cases h1
    obtain ⟨fs, rfl, e1, e2⟩ := h2
    exact ⟨ci0, fs, hc, rfl, fun _ => rfl, e1, e2, by rw [e]; exact hg, hk⟩
  · have key : ∃ ci, bGam (bKp p c) = some (.inr (ci, tys)) ∧ sGrp ci = sGrp ci0 := by
      have hg2 : bGam 102 = some (.inr (ci0, tys)) := hg
      rcases bIsC_cases e with e | e | e | e | e | e | e <;> rw [e]
      · cases hg2; exact ⟨0, rfl, rfl⟩
      · cases hg2; exact ⟨1, rfl, rfl⟩
      · cases hg2; exact ⟨2, rfl, rfl⟩
      · cases hg2; exact ⟨4, rfl, rfl⟩
      · cases hg2; exact ⟨5, rfl, rfl⟩
      · cases hg2; exact ⟨9, rfl, rfl⟩
      · cases hg2; exact ⟨10, rfl, rfl⟩
    obtain ⟨ci, k1, k2⟩ := key
    have h1' := h1
    rw [k1] at h1
    cases h1
    obtain ⟨fs, rfl, e1, e2⟩ := h2
    exact ⟨ci, fs, hc, k2, fun z => absurd rfl z, e1, e2, h1', hk⟩
/-- an array's cell -/
theorem bIn_arr {h : sHp} {K p t n : Nat} {ty : bTy} {cs : List Int} (hH : bH h) (q : bIn h K p) (hg : bGam (bKd K) = some (.inl (t, n, ty, cs))) : ∃ c, h[p]? = some c ∧ bCm h (.inl (t, n, ty, cs)) c ∧ bKp p c = K ∧ bGam K = some (.inl (t, n, ty, cs)) := by
  obtain ⟨c, hc, hk⟩ := bIn_at q hg
  obtain ⟨ct, h1, h2⟩ := hH.2.1 p c hc
  have hK : K ≠ 113 := by
    intro z
    subst z
    exact absurd hg (by intro z; cases z)
  rcases bKK_cases hk with e | ⟨e, -⟩
  · rw [bKd_ne hK] at hg
    rw [e, hg] at h1
    cases h1
    exact ⟨c, hc, h2, e, hg⟩
  · exact absurd e hK
/-- the one place of its kind -/
theorem bKp_one {K p : Nat} {c : va_E} (hK : K < 79) (hl : aNth bKl K = some K) (h : bKp p c = K) : p = K := by
  have key : ∀ a, a < 79 → ∀ b, b < 79 → bKl[a]? = some b → bKl[b]? = some b → a = b := by decide +kernel
  rw [aNth_eq] at hl
  unfold bKp at h
  split at h
  · rename_i K' hp
    subst h
    have hp79 := (List.getElem?_eq_some_iff.mp hp).1
    have e : bKl.length = 79 := rfl
    exact key p (by omega) K' hK hp hl
  · split at h <;> omega
theorem bIn_one {h : sHp} {K p : Nat} (hK : K < 79) (hl : aNth bKl K = some K) (q : bIn h K p) : p = K ∧ ∃ c, h[p]? = some c ∧ bKp p c = K := by
  rcases q with ⟨c, h1, h2⟩ | ⟨rfl, -⟩ | ⟨h1, -⟩
  · rcases bKK_cases h2 with e | ⟨e, -⟩
    · exact ⟨bKp_one hK hl e, c, h1, e⟩
    · omega
  · omega
  · omega
/-! writes -/
theorem s_set_ne {h : sHp} {p k : Nat} {c : va_E} (e : p ≠ k) : (h.set p c)[k]? = h[k]? := List.getElem?_set_ne e
theorem s_set_eq {h : sHp} {p : Nat} {c c0 : va_E} (hc : h[p]? = some c0) : (h.set p c)[p]? = some c := List.getElem?_set_self (List.getElem?_eq_some_iff.mp hc).1
theorem bFr_set {W : Nat} {h : sHp} {p : Nat} {c c' : va_E} (hc : h[p]? = some c) (hf : bCf W (bKp p c) c c') : bFr W 0 h (h.set p c') := by
  refine ⟨by rw [List.length_set]; exact Nat.le_refl _, by rw [List.length_set]; exact Nat.le_refl _, fun k d hd => ?_⟩
  by_cases e : p = k
  · subst e
    rw [hc] at hd
    cases hd
    exact ⟨c', s_set_eq hc, hf⟩
  · exact ⟨d, by rw [s_set_ne e]; exact hd, bCf_refl _ _ _⟩
theorem bP_obj {h : sHp} {p ci j K : Nat} {fs : List Value} {x : Value} (hP : bP h) (hc : h[p]? = some (.inr (ci, fs))) (hk : bKp p (.inr (ci, fs)) = K) (hb : bPk (K * 64 + j) = false) : bP (h.set p (.inr (ci, fs.set j x))) := by
  obtain ⟨fs0, f, g, a1, a2, a3, a4, a5⟩ := hP
  by_cases e : p = 60
  · subst e
    have hK : K = 60 := by rw [← hk]; rfl
    subst hK
    rw [a1] at hc
    cases hc
    unfold bPk at hb
    rw [Bool.or_eq_false_iff, Bool.or_eq_false_iff, aBq, aBq, decide_eq_false_iff_not, decide_eq_false_iff_not] at hb
    refine ⟨_, f, g, s_set_eq a1, by rw [s_set_ne (by decide)]; exact a2, by rw [s_set_ne (by decide)]; exact a3, ?_, ?_⟩
    · rw [List.getElem?_set_ne (by omega)]; exact a4
    · rw [List.getElem?_set_ne (by omega)]; exact a5
  · have n64 : p ≠ 64 := fun z => by
      subst z
      rw [a2] at hc
      cases hc
    have n75 : p ≠ 75 := fun z => by
      subst z
      rw [a3] at hc
      cases hc
    exact ⟨fs0, f, g, by rw [s_set_ne e]; exact a1, by rw [s_set_ne n64]; exact a2, by rw [s_set_ne n75]; exact a3, a4, a5⟩
theorem bP_arr {h : sHp} {p : Nat} {c c' : Nat × Nat × ((Nat → Int32) ⊕ (Nat → Int64) ⊕ (Nat → UInt32) ⊕ (Nat → UInt64) ⊕ (Nat → Option Nat))} (hP : bP h) (hc : h[p]? = some (.inl c)) (n64 : p ≠ 64) (n75 : p ≠ 75) : bP (h.set p (.inl c')) := by
  obtain ⟨fs0, f, g, a1, a2, a3, a4, a5⟩ := hP
  have e : p ≠ 60 := fun z => by
    subst z
    rw [a1] at hc
    cases hc
  exact ⟨fs0, f, g, by rw [s_set_ne e]; exact a1, by rw [s_set_ne n64]; exact a2, by rw [s_set_ne n75]; exact a3, a4, a5⟩
theorem bP_tag {h : sHp} {p t n : Nat} {d : (Nat → Int32) ⊕ (Nat → Int64) ⊕ (Nat → UInt32) ⊕ (Nat → UInt64) ⊕ (Nat → Option Nat)} (hP : bP h) (hc : h[p]? = some (.inl (t, n, d))) (ht : t ≠ 0) : p ≠ 64 ∧ p ≠ 75 := by
  obtain ⟨fs0, f, g, a1, a2, a3, -⟩ := hP
  exact ⟨fun z => by subst z; rw [a2] at hc; cases hc; exact ht rfl, fun z => by subst z; rw [a3] at hc; cases hc; exact ht rfl⟩
theorem bP_ne {p K : Nat} {c : va_E} (hk : bKp p c = K) (hb : bPk (K * 64) = false) : p ≠ 64 ∧ p ≠ 75 := by
  unfold bPk at hb
  rw [Bool.or_eq_false_iff, Bool.or_eq_false_iff, Bool.or_eq_false_iff, aBq, aBq, aBq, aBq, decide_eq_false_iff_not, decide_eq_false_iff_not, decide_eq_false_iff_not, decide_eq_false_iff_not] at hb
  exact ⟨fun z => by
    subst z
    have e : K = 64 := by rw [← hk]; rfl
    omega, fun z => by
    subst z
    have e : K = 75 := by rw [← hk]; rfl
    omega⟩
theorem bH_set {W : Nat} {h : sHp} {p : Nat} {c c' : va_E} {ct : bCt} (hH : bH h) (hc : h[p]? = some c) (hf : bCf W (bKp p c) c c') (hg : bGam (bKp p c) = some ct) (hm : bCm h ct c') (hP : bP (h.set p c')) : bH (h.set p c') := by
  have hx : bEx h (h.set p c') := bEx_of (bFr_set hc hf)
  refine ⟨by rw [List.length_set]; exact hH.1, fun k d hd => ?_, hP⟩
  by_cases e : p = k
  · subst e
    rw [s_set_eq hc] at hd
    cases hd
    exact ⟨ct, by rw [bCf_k hf]; exact hg, bCm_mono hx hm⟩
  · rw [s_set_ne e] at hd
    obtain ⟨ct', h1, h2⟩ := hH.2.1 k d hd
    exact ⟨ct', h1, bCm_mono hx h2⟩
