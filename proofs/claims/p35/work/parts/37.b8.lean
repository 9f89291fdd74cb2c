/-! ===== the second executor: a method keeps to its word ===== -/
def bIsJ (t : bTy) : Bool := match t with
  | .inr (k, _) => Nat.beq k 0
  | _ => false
def bSlt : List bTy → Nat
  | [] => 0
  | t :: r => (bif bIsJ t then 2 else 1) + bSlt r
def bIt : List bTy → Nat → List (Option bTy)
  | [], n => List.replicate n none
  | t :: r, n => bif bIsJ t then some t :: none :: bIt r (n - 2) else some t :: bIt r (n - 1)
theorem bT_cat {h : sHp} {t : bTy} {w : Value} (q : bT h t w) : w.category = (bif bIsJ t then 2 else 1) ∧ sNd w = true := by
  rcases t with ⟨lo, hi⟩ | ⟨k, K⟩
  · obtain ⟨x, rfl, -⟩ := q
    exact ⟨rfl, rfl⟩
  · match k, q with
    | 0, q =>
      obtain ⟨x, rfl⟩ := q
      exact ⟨rfl, rfl⟩
    | 1, q =>
      have e : w = .null := q
      subst e
      exact ⟨rfl, rfl⟩
    | 2, q =>
      obtain ⟨p, rfl, -⟩ := q
      exact ⟨rfl, rfl⟩
    | k + 3, q =>
      have q' : w = .null ∨ ∃ p, w = .ref p ∧ bIn h K p := q
      rcases q' with rfl | ⟨p, rfl, -⟩ <;> exact ⟨rfl, rfl⟩
theorem bTl_nd {h : sHp} : ∀ {ts : List bTy} {vs : List Value}, bTl h ts vs → vs.all sNd = true := by
  intro ts
  induction ts with
  | nil =>
    intro vs q
    cases vs with
    | nil => rfl
    | cons v s => exact q.elim
  | cons t r ih =>
    intro vs q
    cases vs with
    | nil => exact q.elim
    | cons v s => rw [List.all_cons, (bT_cat q.1).2, ih q.2]; rfl
theorem bTL_cons {h : sHp} {o : Option bTy} {p : Option Value} {ts : List (Option bTy)} {vL : sLo} (q : bTL h ts vL) (ho : ∀ t, o = some t → ∃ w, p = some w ∧ bT h t w) : bTL h (o :: ts) (p :: vL) := by
  refine ⟨by rw [List.length_cons, List.length_cons, q.1], fun i t hi => ?_⟩
  cases i with
  | zero =>
    rw [List.getElem?_cons_zero] at hi
    obtain ⟨w, e, h2⟩ := ho t (Option.some.inj hi)
    exact ⟨w, by rw [List.getElem?_cons_zero, e], h2⟩
  | succ i =>
    rw [List.getElem?_cons_succ] at hi ⊢
    exact q.2 i t hi
theorem bIt_ok {h : sHp} : ∀ (ts : List bTy) (vs : List Value) (n : Nat), bTl h ts vs → bSlt ts ≤ n → (sIniA vs).length = bSlt ts ∧ bTL h (bIt ts n) (sIniA vs ++ List.replicate (n - bSlt ts) none) := by
  intro ts
  induction ts with
  | nil =>
    intro vs n q _
    cases vs with
    | nil =>
      refine ⟨rfl, ⟨by simp [bIt, bSlt, sIniA], fun i t hi => ?_⟩⟩
      unfold bIt at hi
      rw [List.getElem?_replicate] at hi
      split at hi <;> cases hi
    | cons v s => exact q.elim
  | cons t r ih =>
    intro vs n q hn
    cases vs with
    | nil => exact q.elim
    | cons v s =>
      have hc := (bT_cat q.1).1
      have hn' : (bif bIsJ t then 2 else 1) + bSlt r ≤ n := hn
      cases hj : bIsJ t with
      | true =>
        rw [hj] at hc hn'
        have hc : v.category = 2 := hc
        have hn' : 2 + bSlt r ≤ n := hn'
        obtain ⟨k1, k2⟩ := ih s (n - 2) q.2 (by omega)
        have e : sIniA (v :: s) = some v :: none :: sIniA s := by
          show (if v.category = 2 then _ else _) = _
          rw [if_pos hc]
        have e2 : bSlt (t :: r) = 2 + bSlt r := by
          show (bif bIsJ t then 2 else 1) + bSlt r = _
          rw [hj]; rfl
        have e3 : bIt (t :: r) n = some t :: none :: bIt r (n - 2) := by
          show (bif bIsJ t then _ else _) = _
          rw [hj]; rfl
        rw [e, e2, e3]
        refine ⟨by rw [List.length_cons, List.length_cons, k1]; omega, ?_⟩
        rw [show n - (2 + bSlt r) = n - 2 - bSlt r by omega]
        exact bTL_cons (bTL_cons k2 (fun t' e' => by cases e')) (fun t' e' => by cases e'; exact ⟨v, rfl, q.1⟩)
      | false =>
        rw [hj] at hc hn'
        have hc : v.category = 1 := hc
        have hn' : 1 + bSlt r ≤ n := hn'
        obtain ⟨k1, k2⟩ := ih s (n - 1) q.2 (by omega)
        have e : sIniA (v :: s) = some v :: sIniA s := by
          show (if v.category = 2 then _ else _) = _
          rw [if_neg (by rw [hc]; decide)]
        have e2 : bSlt (t :: r) = 1 + bSlt r := by
          show (bif bIsJ t then 2 else 1) + bSlt r = _
          rw [hj]; rfl
        have e3 : bIt (t :: r) n = some t :: bIt r (n - 1) := by
          show (bif bIsJ t then _ else _) = _
          rw [hj]; rfl
        rw [e, e2, e3]
        refine ⟨by rw [List.length_cons, k1]; omega, ?_⟩
        rw [show n - (1 + bSlt r) = n - 1 - bSlt r by omega]
        exact bTL_cons k2 (fun t' e' => by cases e'; exact ⟨v, rfl, q.1⟩)
/-- all these places, if the ones of X are known -/
def bCka (sp : Bool) (T : List bCn) (cn : bCn) (X T2 : List bTp) : Bool := match aNth sMs cn.1 with
  | none => false
  | some q => (match cn.2.1 with
    | 0 => false
    | d + 1 => T2.all (bChk sp T cn q d X T2))
theorem bCka_ok {sp : Bool} {T : List bCn} {cn : bCn} {X T2 : List bTp} {d : Nat} (g : bCka sp T cn X T2 = true) (hd : cn.2.1 = d + 1) (hT : ∀ c ∈ T, bHolds c) (HX : ∀ x ∈ X, bPr cn d x) : ∀ t ∈ T2, bPr cn d t := by
  unfold bCka at g
  rw [hd] at g
  split at g
  · cases g
  · rename_i q hq
    rw [aNth_eq] at hq
    have hc := List.all_eq_true.mp g
    intro t ht h vL hH hL hO
    exact bChk_ok hT HX (show sM cn.1 = some q from hq) hc _ t (hc t ht) h vL hH hL hO (Nat.lt_succ_self _)
def bEt (cn : bCn) (c0 : Int) : bTp := (0, bIt cn.2.2.1 ((sNk cn.1).getD 0), cn.2.2.2.1, c0, [])
theorem bEt_ok {cn : bCn} {c0 : Int} {d : Nat} (hd : cn.2.1 = d + 1) (hs : Nat.ble (bSlt cn.2.2.1) ((sNk cn.1).getD 0) = true) (hn0 : (sNk cn.1).isSome = true) (p : bPr cn d (bEt cn c0)) : bHolds cn := by
  intro h vs hH ht hO
  obtain ⟨k, dep, ts, pre, W, gr, ps⟩ := cn
  dsimp only at hd ht hO hs hn0
  subst hd
  obtain ⟨nL, hn⟩ := Option.isSome_iff_exists.mp hn0
  rw [hn] at hs
  have hs : bSlt ts ≤ nL := Nat.le_of_ble_eq_true hs
  obtain ⟨i1, i2⟩ := bIt_ok ts vs nL ht hs
  have hi : sIni nL vs = some (sIniA vs ++ List.replicate (nL - (sIniA vs).length) none) := by
    unfold sIni
    rw [if_pos ⟨bTl_nd ht, by rw [i1]; exact hs⟩]
  rw [← i1] at i2
  refine sDo_of hn hi (p h _ hH ?_ hO)
  show bTL h (bIt ts ((sNk k).getD 0)) _
  rw [hn]
  exact i2
def bCk (sp : Bool) (T : List bCn) (cn : bCn) (X : List bTp) (c0 : Int) (T2 : List bTp) : Bool := (Nat.ble (bSlt cn.2.2.1) ((sNk cn.1).getD 0) && (sNk cn.1).isSome) && bCka sp T cn X (bEt cn c0 :: T2)
theorem bCk_ok {sp : Bool} {T : List bCn} {cn : bCn} {X : List bTp} {c0 : Int} {T2 : List bTp} {d : Nat} (g : bCk sp T cn X c0 T2 = true) (hd : cn.2.1 = d + 1) (hT : ∀ c ∈ T, bHolds c) (HX : ∀ x ∈ X, bPr cn d x) : bHolds cn := by
  unfold bCk at g
  obtain ⟨g1, g2⟩ := aBa g
  obtain ⟨g1, g3⟩ := aBa g1
  exact bEt_ok hd g1 g3 (bCka_ok g2 hd hT HX _ List.mem_cons_self)
def bAH (T : List bCn) : Prop := ∀ c ∈ T, bHolds c
theorem bAH_nil : bAH [] := fun _ h => by cases h
theorem bAH_cons {c : bCn} {T : List bCn} (h : bHolds c) (hT : bAH T) : bAH (c :: T) := fun c' h' => by
  rcases List.mem_cons.mp h' with rfl | h'
  · exact h
  · exact hT c' h'
theorem bX_nil {cn : bCn} {d : Nat} : ∀ x ∈ ([] : List bTp), bPr cn d x := fun _ h => by cases h
