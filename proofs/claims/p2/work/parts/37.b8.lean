/-! ===== the second executor: a method keeps to its word ===== -/
def bIsJ (t : bTy) : Bool := match t with
  | .inr (k, _) => Nat.beq k 0
  | _ => false
def bSlt : List bTy → Nat
  | [] => 0
  | t :: r => (bif bIsJ t then 2 else 1) + bSlt r
def bIt : List bTy → Nat → List (Option bTy)
  | [], n => List.replicate n none
  | t :: r, n => bif bIsJ t then some t :: none :: bIt r (n - 2) else some t :: bIt r (n - 1)
theorem bT_cat {h : sHp} {t : bTy} {w : Value} (q : bT h t w) : w.category = (bif bIsJ t then 2 else 1) ∧ sNd w = true := by
  rcases t with ⟨lo, hi⟩ | ⟨k, K⟩
  · obtain ⟨x, rfl, -⟩ := q
    exact ⟨rfl, rfl⟩
  · match k, q with
    | 0, q =>
      obtain ⟨x, rfl⟩ := q
      exact ⟨rfl, rfl⟩
    | 1, q =>
      have e : w = .null := q
      subst e
      exact ⟨rfl, rfl⟩
    | 2, q =>
      obtain ⟨p, rfl, -⟩ := q
      exact ⟨rfl, rfl⟩
    | k + 3, q =>
      have q' : w = .null ∨ ∃ p, w = .ref p ∧ bIn h K p := q
      rcases q' with rfl | ⟨p, rfl, -⟩ <;> exact ⟨rfl, rfl⟩
theorem bTl_nd {h : sHp} : ∀ {ts : List bTy} {vs : List Value}, bTl h ts vs → vs.all sNd = true := by
  intro ts
  induction ts with
  | nil =>
    intro vs q
    cases vs with
    | nil => rfl
    | cons v s => exact q.elim
  | cons t r ih =>
    intro vs q
    cases vs with
    | nil => exact q.elim
    | cons v s => rw [List.all_cons, (bT_cat q.1).2, ih q.2]; rfl
theorem bTL_cons {h : sHp} {o : Option bTy} {p : Option Value} {ts : List (Option bTy)} {vL : sLo} (q : bTL h ts vL) (ho : ∀ t, o = some t → ∃ w, p = some w ∧ bT h t w) : bTL h (o :: ts) (p :: vL) := by
  refine ⟨by rw [List.length_cons, List.length_cons, q.1], fun i t hi => ?_⟩
  cases i with
  | zero =>
    rw [List.getElem?_cons_zero] at hi
    obtain ⟨w, e, h2⟩ := ho t (Option.some.inj hi)
    exact ⟨w, by rw [List.getElem?_cons_zero, e], h2⟩
  | succ i =>
    rw [List.getElem?_cons_succ] at hi ⊢
    exact q.2 i t hi
theorem bIt_ok {h : sHp} : ∀ (ts : List bTy) (vs : List Value) (n : Nat), bTl h ts vs → bSlt ts ≤ n → (sIniA vs).length = bSlt ts ∧ bTL h (bIt ts n) (sIniA vs ++ List.replicate (n - bSlt ts) none) := by
  intro ts
  induction ts with
  | nil =>
    intro vs n q _
    cases vs with
    | nil =>
      refine ⟨rfl, ⟨by simp [bIt, bSlt, sIniA], fun i t hi => ?_⟩⟩
      unfold bIt at hi
      rw [List.getElem?_replicate] at hi
      split at hi <;> cases hi
    | cons v s => exact q.elim
  | cons t r ih =>
    intro vs n q hn
    cases vs with
    | nil => exact q.elim
    | cons v s =>
      have hc := (bT_cat q.1).1
      have hn' : (bif bIsJ t then 2 else 1) + bSlt r ≤ n := hn
      cases hj : bIsJ t with
      | true =>
        rw [hj] at hc hn'
        have hc : v.category = 2 := hc
        have hn' : 2 + bSlt r ≤ n := hn'
        obtain ⟨k1, k2⟩ := ih s (n - 2) q.2 (by omega)
        have e : sIniA (v :: s) = some v :: none :: sIniA s := by
          show (if v.category = 2 then _ else _) = _
          rw [if_pos hc]
        have e2 : bSlt (t :: r) = 2 + bSlt r := by
          show (bif bIsJ t then 2 else 1) + bSlt r = _
          rw [hj]; rfl
        have e3 : bIt (t :: r) n = some t :: none :: bIt r (n - 2) := by
          show (bif bIsJ t then _ else _) = _
          rw [hj]; rfl
        rw [e, e2, e3]
        refine ⟨by rw [List.length_cons, List.length_cons, k1]; omega, ?_⟩
        rw [show n - (2 + bSlt r) = n - 2 - bSlt r by omega]
        exact bTL_cons (bTL_cons k2 (fun t' e' => by cases e')) (fun t' e' => by cases e'; exact ⟨v, rfl, q.1⟩)
      | false =>
        rw [hj] at hc hn'
        have hc : v.category = 1 := hc
        have hn' : 1 + bSlt r ≤ n := hn'
        obtain ⟨k1, k2⟩ := ih s (n - 1) q.2 (by omega)
        have e : sIniA (v :: s) = some v :: sIniA s := by
          show (if v.category = 2 then _ else _) = _
          rw [if_neg (by rw [hc]; decide)]
        have e2 : bSlt (t :: r) = 1 + bSlt r := by
          show (bif bIsJ t then 2 else 1) + bSlt r = _
          rw [hj]; rfl
        have e3 : bIt (t :: r) n = some t :: bIt r (n - 1) := by
          show (bif bIsJ t then _ else _) = _
          rw [hj]; rfl
        rw [e, e2, e3]
        refine ⟨by rw [List.length_cons, k1]; omega, ?_⟩
        rw [show n - (1 + bSlt r) = n - 1 - bSlt r by omega]
        exact bTL_cons k2 (fun t' e' => by cases e'; exact ⟨v, rfl, q.1⟩)
def bCk (sp : Bool) (T : List bCn) (cn : bCn) (c0 : Int) (T2 : List bTp) : Bool := match aNth sMs cn.1 with
  | none => false
  | some q => (match cn.2.1 with
    | 0 => false
    | d + 1 => Nat.ble (bSlt cn.2.2.1) (mN q) && (((0, bIt cn.2.2.1 (mN q), cn.2.2.2.1, c0, []) :: T2).all (bChk sp T cn q d ((0, bIt cn.2.2.1 (mN q), cn.2.2.2.1, c0, []) :: T2))))
theorem bCk_ok {sp : Bool} {T : List bCn} {cn : bCn} {c0 : Int} {T2 : List bTp} (g : bCk sp T cn c0 T2 = true) (hT : ∀ c ∈ T, bHolds c) : bHolds cn := by
  intro h vs hH ht hO
  obtain ⟨k, dep, ts, pre, W, gr, ps⟩ := cn
  unfold bCk at g
  split at g
  · cases g
  · rename_i q hq
    rw [aNth_eq] at hq
    split at g
    · cases g
    · rename_i d hd
      obtain ⟨g1, g2⟩ := aBa g
      dsimp only at hd ht hO hq
      subst hd
      have hc := List.all_eq_true.mp g2
      obtain ⟨i1, i2⟩ := bIt_ok ts vs (mN q) ht (Nat.le_of_ble_eq_true g1)
      have hi : sIni (mN q) vs = some (sIniA vs ++ List.replicate (mN q - (sIniA vs).length) none) := by
        unfold sIni
        rw [if_pos ⟨bTl_nd ht, by rw [i1]; exact Nat.le_of_ble_eq_true g1⟩]
      rw [← i1] at i2
      have hn : sNk k = some (mN q) := by
        unfold sNk
        rw [show sM k = some q from hq]; rfl
      exact sDo_of hn hi (bChk_ok (cn := (k, d + 1, ts, pre, W, gr, ps)) hT (show sM k = some q from hq) hc _ _ (hc _ List.mem_cons_self) h _ hH i2 hO (Nat.lt_succ_self _))
def bAH (T : List bCn) : Prop := ∀ c ∈ T, bHolds c
theorem bAH_nil : bAH [] := fun _ h => by cases h
theorem bAH_cons {c : bCn} {T : List bCn} (h : bHolds c) (hT : bAH T) : bAH (c :: T) := fun c' h' => by
  rcases List.mem_cons.mp h' with rfl | h'
  · exact h
  · exact hT c' h'
