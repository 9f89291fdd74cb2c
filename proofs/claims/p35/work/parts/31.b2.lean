/-! ===== the second executor: states, numbers with bounds ===== -/
abbrev bS : Type := Nat × Nat × List (Nat × Int × Int) × List (Nat × Nat × Int) × List (Nat × Bool) × List (Nat × bV) × List (Nat × bN × bV)
def bmI (ι : List Value) (a : bN) (x : Int32) : Prop := match a with
  | .inl i => ι[i]? = some (.int x)
  | .inr c => x.toInt = c
def bmV (ι : List Value) (h : sHp) (v : bV) (w : Value) : Prop := match v with
  | .inl a => ∃ x, w = .int x ∧ bmI ι a x
  | .inr (0, _) => ∃ x, w = .long x
  | .inr (1, _) => w = .null
  | .inr (2, K) => ∃ p, w = .ref p ∧ bIn h K p
  | .inr (k + 3, K) => ι[k]? = some w ∧ (w = .null ∨ ∃ p, w = .ref p ∧ bIn h K p)
def bLe (ι ι' : List Value) : Prop := ∃ r, ι' = ι ++ r
theorem bLe_refl (ι : List Value) : bLe ι ι := ⟨[], (List.append_nil ι).symm⟩
theorem bLe_trans {ι ι' ι'' : List Value} (a : bLe ι ι') (b : bLe ι' ι'') : bLe ι ι'' := by
  obtain ⟨r, rfl⟩ := a
  obtain ⟨r', rfl⟩ := b
  exact ⟨r ++ r', List.append_assoc _ _ _⟩
theorem bLe_at {ι ι' : List Value} (a : bLe ι ι') {i : Nat} {w : Value} (h : ι[i]? = some w) : ι'[i]? = some w := by
  obtain ⟨r, rfl⟩ := a
  rw [List.getElem?_append_left (List.getElem?_eq_some_iff.mp h).1]
  exact h
theorem bmI_mono {ι ι' : List Value} (a : bLe ι ι') {v : bN} {x : Int32} (h : bmI ι v x) : bmI ι' v x := by
  cases v with
  | inl i => exact bLe_at a h
  | inr c => exact h
theorem bmV_mono {ι ι' : List Value} {h h' : sHp} (a : bLe ι ι') (b : bEx h h') {v : bV} {w : Value} (q : bmV ι h v w) : bmV ι' h' v w := by
  rcases v with v | ⟨t, K⟩
  · obtain ⟨x, e, hx⟩ := q
    exact ⟨x, e, bmI_mono a hx⟩
  · match t, q with
    | 0, q => exact q
    | 1, q => exact q
    | 2, q =>
      obtain ⟨p, e, hp⟩ := q
      exact ⟨p, e, bIn_mono b hp⟩
    | k + 3, q =>
      obtain ⟨q1, q2⟩ := q
      exact ⟨bLe_at a q1, q2.imp id (fun ⟨p, e, hp⟩ => ⟨p, e, bIn_mono b hp⟩)⟩
/-- what the marks say of a state -/
def bmG (ι : List Value) (G : List (Nat × Int × Int)) : Prop := ∀ e ∈ G, ∃ x, ι[e.1]? = some (.int x) ∧ e.2.1 ≤ x.toInt ∧ x.toInt ≤ e.2.2
def bmD (ι : List Value) (D : List (Nat × Nat × Int)) : Prop := ∀ e ∈ D, ∃ x y, ι[e.1]? = some (.int x) ∧ ι[e.2.1]? = some (.int y) ∧ x.toInt = y.toInt + e.2.2
def bmN0 (ι : List Value) (N : List (Nat × Bool)) : Prop := ∀ e ∈ N, ∃ w, ι[e.1]? = some w ∧ (e.2 = true → w ≠ .null) ∧ (e.2 = false → w = .null)
/-- the kinds with one place -/
def bOne (K : Nat) : Bool := Nat.blt K 79 && (match aNth bKl K with
  | some j => Nat.beq j K
  | none => false)
theorem bOne_k {K : Nat} (g : bOne K = true) (c : va_E) : K < 79 ∧ bKp K c = K := by
  unfold bOne at g
  obtain ⟨g1, g2⟩ := aBa g
  split at g2
  · rename_i j hj
    rw [aNth_eq] at hj
    have e := aBt g2
    subst e
    refine ⟨aBl g1, ?_⟩
    unfold bKp
    rw [hj]
  · cases g2
theorem bOne_p {K p : Nat} {c : va_E} (g : bOne K = true) (h : bKp p c = K) : p = K := by
  unfold bOne at g
  obtain ⟨g1, g2⟩ := aBa g
  split at g2
  · rename_i j hj
    have e := aBt g2
    subst e
    exact bKp_one (aBl g1) hj h
  · cases g2
def bmO1 (ι : List Value) (h : sHp) (e : Nat × bV) : Prop := bOne (e.1 / 64) = true ∧ ∃ ci fs w, h[e.1 / 64]? = some (.inr (ci, fs)) ∧ fs[e.1 % 64]? = some w ∧ bmV ι h e.2 w
def bmO (ι : List Value) (h : sHp) (O : List (Nat × bV)) : Prop := ∀ e ∈ O, bmO1 ι h e
def bmA1 (ι : List Value) (h : sHp) (e : Nat × bN × bV) : Prop := bOne e.1 = true ∧ ∃ t n f j, h[e.1]? = some (.inl (t, n, .inr (.inr (.inr (.inr f))))) ∧ bmI ι e.2.1 j ∧ bmV ι h e.2.2 (va_rf (f j.toNatClampNeg))
def bmA (ι : List Value) (h : sHp) (A : List (Nat × bN × bV)) : Prop := ∀ e ∈ A, bmA1 ι h e
def bmS (ι : List Value) (h : sHp) (S : bS) : Prop := ι.length = S.1 ∧ bmG ι S.2.2.1 ∧ bmD ι S.2.2.2.1 ∧ bmN0 ι S.2.2.2.2.1 ∧ bmO ι h S.2.2.2.2.2.1 ∧ bmA ι h S.2.2.2.2.2.2
theorem bmG_mono {ι ι' : List Value} (a : bLe ι ι') {G : List (Nat × Int × Int)} (q : bmG ι G) : bmG ι' G := fun e he => by
  obtain ⟨x, h1, h2⟩ := q e he
  exact ⟨x, bLe_at a h1, h2⟩
theorem bmD_mono {ι ι' : List Value} (a : bLe ι ι') {D : List (Nat × Nat × Int)} (q : bmD ι D) : bmD ι' D := fun e he => by
  obtain ⟨x, y, h1, h2, h3⟩ := q e he
  exact ⟨x, y, bLe_at a h1, bLe_at a h2, h3⟩
theorem bmN0_mono {ι ι' : List Value} (a : bLe ι ι') {N : List (Nat × Bool)} (q : bmN0 ι N) : bmN0 ι' N := fun e he => by
  obtain ⟨x, h1, h2⟩ := q e he
  exact ⟨x, bLe_at a h1, h2⟩
theorem bmO_mono {ι ι' : List Value} (a : bLe ι ι') {h : sHp} {O : List (Nat × bV)} (q : bmO ι h O) : bmO ι' h O := fun e he => by
  obtain ⟨h0, ci, fs, w, h1, h2, h3⟩ := q e he
  exact ⟨h0, ci, fs, w, h1, h2, bmV_mono a (bEx_refl h) h3⟩
theorem bmA_mono {ι ι' : List Value} (a : bLe ι ι') {h : sHp} {A : List (Nat × bN × bV)} (q : bmA ι h A) : bmA ι' h A := fun e he => by
  obtain ⟨h0, t, n, f, j, h1, h2, h3⟩ := q e he
  exact ⟨h0, t, n, f, j, h1, bmI_mono a h2, bmV_mono a (bEx_refl h) h3⟩
/-- one more value -/
theorem bmS_new {ι : List Value} {h : sHp} {S : bS} (q : bmS ι h S) (w : Value) : (ι ++ [w])[S.1]? = some w ∧ bLe ι (ι ++ [w]) ∧ bmS (ι ++ [w]) h (S.1 + 1, S.2) := by
  obtain ⟨h1, h2, h3, h4, h5, h6⟩ := q
  have a : bLe ι (ι ++ [w]) := ⟨[w], rfl⟩
  refine ⟨by rw [← h1]; simp, a, by rw [List.length_append, h1]; rfl, bmG_mono a h2, bmD_mono a h3, bmN0_mono a h4, bmO_mono a h5, bmA_mono a h6⟩
/-! bounds -/
def bG : List (Nat × Int × Int) → Nat → Int × Int
  | [], _ => aFull
  | e :: r, i => bif Nat.beq e.1 i then e.2 else bG r i
theorem bG_ok {ι : List Value} {i : Nat} {x : Int32} (hx : ι[i]? = some (.int x)) : ∀ {G : List (Nat × Int × Int)}, bmG ι G → aW x.toInt (bG G i) := by
  intro G
  induction G with
  | nil => intro _; exact aFull_ok x
  | cons e r ih =>
    intro hG
    unfold bG
    rw [aBq]
    by_cases he : e.1 = i
    · rw [decide_eq_true he]
      obtain ⟨y, h1, h2⟩ := hG e List.mem_cons_self
      rw [he, hx] at h1
      cases h1
      exact h2
    · rw [decide_eq_false he]
      exact ih (fun e he => hG e (List.mem_cons_of_mem _ he))
def bI (S : bS) (a : bN) : Int × Int := match a with
  | .inl i => bG S.2.2.1 i
  | .inr c => (c, c)
theorem bI_ok {ι : List Value} {h : sHp} {S : bS} (q : bmS ι h S) {a : bN} {x : Int32} (hx : bmI ι a x) : aW x.toInt (bI S a) := by
  cases a with
  | inl i => exact bG_ok hx q.2.1
  | inr c =>
    have e : x.toInt = c := hx
    show c ≤ x.toInt ∧ x.toInt ≤ c
    omega
/-- a new number with bounds -/
def bNew (lo hi : Int) (S : bS) (f : bS → bN → Bool) : Bool := aFc lo fun lo => aFc hi fun hi => bif decide (lo = hi) then f S (.inr lo) else (match S with
  | (n, g, G, r) => aF n fun n => aF (n + 1) fun n1 => f (n1, g, (n, lo, hi) :: G, r) (.inl n))
theorem bNew_ok {ι : List Value} {h : sHp} {S : bS} {lo hi : Int} {f : bS → bN → Bool} (g : bNew lo hi S f = true) (q : bmS ι h S) {x : Int32} (hx : aW x.toInt (lo, hi)) : ∃ ι' S' a, f S' a = true ∧ bLe ι ι' ∧ bmS ι' h S' ∧ bmI ι' a x ∧ S'.2.1 = S.2.1 := by
  unfold bNew at g
  rw [aFc_eq, aFc_eq] at g
  unfold aW at hx
  dsimp only at hx
  cases hd : decide (lo = hi) with
  | true =>
    rw [hd] at g
    have := of_decide_eq_true hd
    exact ⟨ι, S, .inr lo, g, bLe_refl ι, q, by show x.toInt = lo; omega, rfl⟩
  | false =>
    rw [hd] at g
    obtain ⟨n, g0, G, r⟩ := S
    dsimp only [cond] at g
    rw [aF_eq, aF_eq] at g
    obtain ⟨h1, h2, h3⟩ := bmS_new q (.int x)
    refine ⟨ι ++ [Value.int x], _, .inl n, g, h2, ⟨h3.1, ?_, h3.2.2⟩, (show (ι ++ [Value.int x])[n]? = some (Value.int x) from h1), rfl⟩
    intro e he
    rcases List.mem_cons.mp he with rfl | he
    · exact ⟨x, h1, hx⟩
    · exact h3.2.1 e he
/-- a number has narrower bounds -/
def bRf (S : bS) (a : bN) (lo hi : Int) (f : bS → Bool) : Bool := match bI S a with
  | (x, y) => aFc (max x lo) fun u => aFc (min y hi) fun v => bif decide (v < u) then true else (match a with
    | .inr _ => f S
    | .inl i => bif decide (u = x) && decide (v = y) then f S else (match S with
    | (n, g, G, r) => f (n, g, (i, u, v) :: G, r)))
theorem bRf_ok {ι : List Value} {h : sHp} {S : bS} {a : bN} {lo hi : Int} {f : bS → Bool} (g : bRf S a lo hi f = true) (q : bmS ι h S) {x : Int32} (hx : bmI ι a x) (h1 : lo ≤ x.toInt) (h2 : x.toInt ≤ hi) : ∃ S', f S' = true ∧ bmS ι h S' ∧ S'.2.1 = S.2.1 := by
  have h0 := bI_ok q hx
  unfold bRf at g
  unfold aW at h0
  generalize bI S a = p at g h0
  obtain ⟨lo0, hi0⟩ := p
  dsimp only at g h0
  rw [aFc_eq, aFc_eq] at g
  have e : decide (min hi0 hi < max lo0 lo) = false := decide_eq_false (by omega)
  rw [e] at g
  dsimp only [cond] at g
  cases a with
  | inr c => exact ⟨S, g, q, rfl⟩
  | inl i =>
    dsimp only at g
    cases hd : (decide (max lo0 lo = lo0) && decide (min hi0 hi = hi0)) with
    | true => rw [hd] at g; exact ⟨S, g, q, rfl⟩
    | false =>
      rw [hd] at g
      obtain ⟨n, g0, G, r⟩ := S
      refine ⟨_, g, ⟨q.1, ?_, q.2.2⟩, rfl⟩
      intro e he
      rcases List.mem_cons.mp he with rfl | he
      · exact ⟨x, hx, by dsimp only; omega, by dsimp only; omega⟩
      · exact q.2.1 e he
/-! comparisons -/
def bSm (a b : bN) : Bool := match a with
  | .inl i => (match b with
    | .inl j => Nat.beq i j
    | _ => false)
  | _ => false
theorem bSm_ok {ι : List Value} {a b : bN} {x y : Int32} (h : bSm a b = true) (ha : bmI ι a x) (hb : bmI ι b y) : x = y := by
  cases a with
  | inr c => cases h
  | inl i =>
    cases b with
    | inr c => cases h
    | inl j =>
      have e : i = j := aBt h
      subst e
      have h1 : ι[i]? = some (Value.int x) := ha
      have h2 : ι[i]? = some (Value.int y) := hb
      rw [h1] at h2
      cases h2
      rfl
def bNe (sp : Bool) (S : bS) (a : bN) (p q : Int × Int) (f : bS → Bool) : Bool := bif decide (q.1 = q.2) then (bif decide (p.1 = q.1) then bRf S a (p.1 + 1) p.2 f else (bif decide (p.2 = q.1) then bRf S a p.1 (p.2 - 1) f else (bif sp then bRf S a p.1 (q.1 - 1) f && bRf S a (q.1 + 1) p.2 f else f S))) else f S
theorem bNe_ok {ι : List Value} {h : sHp} {sp : Bool} {S : bS} {a : bN} {p q : Int × Int} {f : bS → Bool} (g : bNe sp S a p q f = true) (hS : bmS ι h S) {x y : Int32} (hx : bmI ι a x) (hp : aW x.toInt p) (hq : aW y.toInt q) (hne : x.toInt ≠ y.toInt) : ∃ S', f S' = true ∧ bmS ι h S' ∧ S'.2.1 = S.2.1 := by
  unfold bNe at g
  unfold aW at hp hq
  cases h1 : decide (q.1 = q.2) with
  | false => rw [h1] at g; exact ⟨S, g, hS, rfl⟩
  | true =>
    rw [h1] at g
    have h1 := of_decide_eq_true h1
    dsimp only [cond] at g
    cases h2 : decide (p.1 = q.1) with
    | true =>
      rw [h2] at g
      have h2 := of_decide_eq_true h2
      exact bRf_ok g hS hx (by omega) (by omega)
    | false =>
      rw [h2] at g
      dsimp only [cond] at g
      cases h3 : decide (p.2 = q.1) with
      | true =>
        rw [h3] at g
        have h3 := of_decide_eq_true h3
        exact bRf_ok g hS hx (by omega) (by omega)
      | false =>
        rw [h3] at g
        dsimp only [cond] at g
        cases sp with
        | false => exact ⟨S, g, hS, rfl⟩
        | true =>
          obtain ⟨g1, g2⟩ := aBa g
          by_cases h4 : x.toInt < y.toInt
          · exact bRf_ok g1 hS hx (by omega) (by omega)
          · exact bRf_ok g2 hS hx (by omega) (by omega)
def bCnd (sp : Bool) (c : Jvm.ClassFile.Cond) (S : bS) (a b : bN) (f : bS → Bool) : Bool := match c with
  | .lt => bRf S a (bI S a).1 ((bI S b).2 - 1) fun S1 => bRf S1 b ((bI S a).1 + 1) (bI S b).2 f
  | .gt => bRf S b (bI S b).1 ((bI S a).2 - 1) fun S1 => bRf S1 a ((bI S b).1 + 1) (bI S a).2 f
  | .le => bRf S a (bI S a).1 (bI S b).2 fun S1 => bRf S1 b (bI S a).1 (bI S b).2 f
  | .ge => bRf S b (bI S b).1 (bI S a).2 fun S1 => bRf S1 a (bI S b).1 (bI S a).2 f
  | .eq => bRf S a (bI S b).1 (bI S b).2 fun S1 => bRf S1 b (bI S a).1 (bI S a).2 f
  | .ne => bif bSm a b then true else (bif decide ((bI S b).1 = (bI S b).2) then bNe sp S a (bI S a) (bI S b) f else bNe sp S b (bI S b) (bI S a) f)
theorem bCnd_ok {ι : List Value} {h : sHp} {sp : Bool} {c : Jvm.ClassFile.Cond} {S : bS} {a b : bN} {f : bS → Bool} (g : bCnd sp c S a b f = true) (q : bmS ι h S) {x y : Int32} (hx : bmI ι a x) (hy : bmI ι b y) (hc : sC2 c x y = true) : ∃ S', f S' = true ∧ bmS ι h S' ∧ S'.2.1 = S.2.1 := by
  have h1 := bI_ok q hx
  have h2 := bI_ok q hy
  unfold aW at h1 h2
  unfold bCnd at g
  have two : ∀ {u v : bN} {z w : Int32} {l1 u1 l2 u2 : Int}, bmI ι u z → bmI ι v w → l1 ≤ z.toInt → z.toInt ≤ u1 → l2 ≤ w.toInt → w.toInt ≤ u2 → (bRf S u l1 u1 fun S1 => bRf S1 v l2 u2 f) = true → ∃ S', f S' = true ∧ bmS ι h S' ∧ S'.2.1 = S.2.1 := by
    intro u v z w l1 u1 l2 u2 hz hw a1 a2 a3 a4 gg
    obtain ⟨S1, g1, q1, e1⟩ := bRf_ok gg q hz a1 a2
    obtain ⟨S2, g2, q2, e2⟩ := bRf_ok g1 q1 hw a3 a4
    exact ⟨S2, g2, q2, e2.trans e1⟩
  cases c with
  | lt =>
    have hc := Int32.lt_iff_toInt_lt.mp (of_decide_eq_true hc)
    exact two hx hy (by omega) (by omega) (by omega) (by omega) g
  | gt =>
    have hc := Int32.lt_iff_toInt_lt.mp (of_decide_eq_true hc)
    exact two hy hx (by omega) (by omega) (by omega) (by omega) g
  | le =>
    have hc := Int32.le_iff_toInt_le.mp (of_decide_eq_true hc)
    exact two hx hy (by omega) (by omega) (by omega) (by omega) g
  | ge =>
    have hc := Int32.le_iff_toInt_le.mp (of_decide_eq_true hc)
    exact two hy hx (by omega) (by omega) (by omega) (by omega) g
  | eq =>
    have hc : x = y := of_decide_eq_true hc
    subst hc
    exact two hx hy (by omega) (by omega) (by omega) (by omega) g
  | ne =>
    have hc : ¬ x = y := by
      intro z
      unfold sC2 at hc
      simp [z] at hc
    have hne : x.toInt ≠ y.toInt := fun z => hc (Int32.toInt_inj.mp z)
    dsimp only at g
    cases hs : bSm a b with
    | true => exact absurd (bSm_ok hs hx hy) hc
    | false =>
      rw [hs] at g
      dsimp only [cond] at g
      split at g
      · exact bNe_ok g q hx h1 h2 hne
      · exact bNe_ok g q hy h2 h1 (fun z => hne z.symm)
def bNg (c : Jvm.ClassFile.Cond) : Jvm.ClassFile.Cond := match c with
  | .eq => .ne
  | .ne => .eq
  | .lt => .ge
  | .ge => .lt
  | .gt => .le
  | .le => .gt
theorem bNg_cr (c : Jvm.ClassFile.Cond) (o : Nat) : aCr (bNg c) o = !(aCr c o) := by
  cases c <;> simp [bNg, aCr]
theorem bNg_ok {c : Jvm.ClassFile.Cond} {x y : Int32} (h : sC2 c x y = false) : sC2 (bNg c) x y = true := by
  by_cases h1 : x.toInt < y.toInt
  · rw [aCr_lt c h1] at h
    rw [aCr_lt _ h1, bNg_cr, h]; rfl
  · by_cases h2 : y.toInt < x.toInt
    · rw [aCr_gt c h2] at h
      rw [aCr_gt _ h2, bNg_cr, h]; rfl
    · have h3 : x.toInt = y.toInt := by omega
      rw [aCr_eq c h3] at h
      rw [aCr_eq _ h3, bNg_cr, h]; rfl
/-! kinds of values -/
def bNn : List (Nat × Bool) → Nat → Option Bool
  | [], _ => none
  | e :: r, i => bif Nat.beq e.1 i then some e.2 else bNn r i
theorem bNn_ok {ι : List Value} {i : Nat} {w : Value} (hw : ι[i]? = some w) : ∀ {N : List (Nat × Bool)} {b : Bool}, bmN0 ι N → bNn N i = some b → (b = true → w ≠ .null) ∧ (b = false → w = .null) := by
  intro N
  induction N with
  | nil => intro b _ h; cases h
  | cons e r ih =>
    intro b hN h
    unfold bNn at h
    rw [aBq] at h
    by_cases he : e.1 = i
    · rw [decide_eq_true he] at h
      cases h
      obtain ⟨y, h1, h2⟩ := hN e List.mem_cons_self
      rw [he, hw] at h1
      cases h1
      exact h2
    · rw [decide_eq_false he] at h
      exact ih (fun e he => hN e (List.mem_cons_of_mem _ he)) h
/-- surely a place of this kind -/
def bRef (S : bS) (v : bV) : Option Nat := match v with
  | .inr (t, K) => (match t with
    | 0 => none
    | 1 => none
    | 2 => some K
    | k + 3 => (match bNn S.2.2.2.2.1 k with
      | some true => some K
      | _ => none))
  | _ => none
theorem bRef_ok {ι : List Value} {h : sHp} {S : bS} {v : bV} {w : Value} {K : Nat} (g : bRef S v = some K) (q : bmS ι h S) (hv : bmV ι h v w) : ∃ p, w = .ref p ∧ bIn h K p := by
  rcases v with v | ⟨t, K'⟩
  · cases g
  · match t, g, hv with
    | 0, g, _ => cases g
    | 1, g, _ => cases g
    | 2, g, hv => cases g; exact hv
    | k + 3, g, hv =>
      obtain ⟨h1, h2⟩ := hv
      have g' : (match bNn S.2.2.2.2.1 k with
        | some true => some K'
        | _ => none) = some K := g
      split at g'
      · rename_i hn
        cases g'
        have h3 := (bNn_ok h1 q.2.2.2.1 hn).1 rfl
        exact h2.resolve_left h3
      · cases g'
/-- surely null -/
def bNul (S : bS) (v : bV) : Bool := match v with
  | .inr (t, _) => (match t with
    | 0 => false
    | 1 => true
    | 2 => false
    | k + 3 => (match bNn S.2.2.2.2.1 k with
      | some false => true
      | _ => false))
  | _ => false
theorem bNul_ok {ι : List Value} {h : sHp} {S : bS} {v : bV} {w : Value} (g : bNul S v = true) (q : bmS ι h S) (hv : bmV ι h v w) : w = .null := by
  rcases v with v | ⟨t, K'⟩
  · cases g
  · match t, g, hv with
    | 0, g, _ => cases g
    | 1, g, hv => exact hv
    | 2, g, _ => cases g
    | k + 3, g, hv =>
      obtain ⟨h1, h2⟩ := hv
      have g' : (match bNn S.2.2.2.2.1 k with
        | some false => true
        | _ => false) = true := g
      split at g'
      · rename_i hn
        exact (bNn_ok h1 q.2.2.2.1 hn).2 rfl
      · cases g'
def bKs (K' K : Nat) : Bool := Nat.beq K' K || (Nat.beq K 113 && bIsC K')
theorem bKs_ok {h : sHp} {K' K p : Nat} (g : bKs K' K = true) (q : bIn h K' p) : bIn h K p := by
  rcases bKK_cases (κ := K') (K := K) g with rfl | ⟨rfl, e⟩
  · exact q
  · have e' := bIsC_cases e
    rcases q with ⟨c, h1, h2⟩ | ⟨rfl, -⟩ | ⟨h1, -⟩
    · rcases bKK_cases h2 with e2 | ⟨e2, -⟩
      · refine Or.inl ⟨c, h1, ?_⟩
        unfold bKK
        rw [e2, e]
        simp [aBq]
      · omega
    · omega
    · omega
def bRfT (S : bS) (v : bV) (K : Nat) : Bool := match bRef S v with
  | some K' => bKs K' K
  | none => false
theorem bRfT_ok {ι : List Value} {h : sHp} {S : bS} {v : bV} {w : Value} {K : Nat} (g : bRfT S v K = true) (q : bmS ι h S) (hv : bmV ι h v w) : ∃ p, w = .ref p ∧ bIn h K p := by
  unfold bRfT at g
  split at g
  · rename_i K' hr
    obtain ⟨p, e, hp⟩ := bRef_ok hr q hv
    exact ⟨p, e, bKs_ok g hp⟩
  · cases g
def bQk (v : bV) (K : Nat) : Bool := match v with
  | .inr (u, K') => Nat.blt 2 u && bKs K' K
  | _ => false
/-- a value fits a type -/
def bFit (S : bS) (v : bV) (t : bTy) : Bool := match t with
  | .inl (lo, hi) => (match v with
    | .inl a => decide (lo ≤ (bI S a).1) && decide ((bI S a).2 ≤ hi)
    | _ => false)
  | .inr (t, K) => (match t with
    | 0 => (match v with
      | .inr (u, _) => Nat.beq u 0
      | _ => false)
    | 1 => bNul S v
    | 2 => bRfT S v K
    | _ + 3 => bNul S v || (bRfT S v K || bQk v K))
theorem bFit_ok {ι : List Value} {h : sHp} {S : bS} {v : bV} {t : bTy} {w : Value} (g : bFit S v t = true) (q : bmS ι h S) (hv : bmV ι h v w) : bT h t w := by
  rcases t with ⟨lo, hi⟩ | ⟨t, K⟩
  · rcases v with a | v
    · obtain ⟨x, rfl, hx⟩ := hv
      obtain ⟨g1, g2⟩ := aBa g
      have g1 := of_decide_eq_true g1
      have g2 := of_decide_eq_true g2
      have h0 := bI_ok q hx
      unfold aW at h0
      exact ⟨x, rfl, by omega, by omega⟩
    · cases g
  · match t, g with
    | 0, g =>
      rcases v with a | ⟨u, K'⟩
      · cases g
      · have e : u = 0 := aBt g
        subst e
        exact hv
    | 1, g => exact bNul_ok g q hv
    | 2, g => exact bRfT_ok g q hv
    | k + 3, g =>
      show w = .null ∨ _
      have g' : (bNul S v || (bRfT S v K || bQk v K)) = true := g
      rw [Bool.or_eq_true, Bool.or_eq_true] at g'
      rcases g' with g' | g' | g'
      · exact Or.inl (bNul_ok g' q hv)
      · exact Or.inr (bRfT_ok g' q hv)
      · rcases v with a | ⟨u, K'⟩
        · cases g'
        · obtain ⟨g1, g2⟩ := aBa g'
          have g1 := aBl g1
          obtain ⟨j, rfl⟩ : ∃ j, u = j + 3 := ⟨u - 3, by omega⟩
          obtain ⟨-, h2⟩ := hv
          exact h2.imp id (fun ⟨p, e, hp⟩ => ⟨p, e, bKs_ok g2 hp⟩)
/-- some value of a type -/
def bMk (t : bTy) (S : bS) (f : bS → bV → Bool) : Bool := match t with
  | .inl (lo, hi) => bNew lo hi S (fun S a => f S (.inl a))
  | .inr (t, K) => (match t with
    | 0 => f S (.inr (0, 0))
    | 1 => f S (.inr (1, 0))
    | 2 => f S (.inr (2, K))
    | _ + 3 => (match S with
      | (n, r) => aF n fun n => aF (n + 1) fun n1 => aF (n + 3) fun n3 => f (n1, r) (.inr (n3, K))))
theorem bMk_ok {ι : List Value} {h : sHp} {S : bS} {t : bTy} {f : bS → bV → Bool} (g : bMk t S f = true) (q : bmS ι h S) {w : Value} (hw : bT h t w) : ∃ ι' S' v, f S' v = true ∧ bLe ι ι' ∧ bmS ι' h S' ∧ bmV ι' h v w ∧ S'.2.1 = S.2.1 := by
  rcases t with ⟨lo, hi⟩ | ⟨t, K⟩
  · obtain ⟨x, rfl, hx⟩ := hw
    have g' : bNew lo hi S (fun S a => f S (.inl a)) = true := g
    obtain ⟨ι', S', a, g1, g2, g3, g4, g5⟩ := bNew_ok g' q (x := x) hx
    exact ⟨ι', S', .inl a, g1, g2, g3, ⟨x, rfl, g4⟩, g5⟩
  · match t, g, hw with
    | 0, g, hw => exact ⟨ι, S, _, g, bLe_refl ι, q, hw, rfl⟩
    | 1, g, hw => exact ⟨ι, S, _, g, bLe_refl ι, q, hw, rfl⟩
    | 2, g, hw => exact ⟨ι, S, _, g, bLe_refl ι, q, hw, rfl⟩
    | k + 3, g, hw =>
      obtain ⟨n, r⟩ := S
      have g' : (aF n fun n => aF (n + 1) fun n1 => aF (n + 3) fun n3 => f (n1, r) (.inr (n3, K))) = true := g
      rw [aF_eq, aF_eq, aF_eq] at g'
      obtain ⟨h1, h2, h3⟩ := bmS_new q w
      exact ⟨_, _, _, g', h2, h3, ⟨h1, hw⟩, rfl⟩
