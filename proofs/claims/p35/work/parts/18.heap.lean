/-! ===== cells of terms ===== -/
theorem aBq (a b : Nat) : Nat.beq a b = decide (a = b) := by
  by_cases h : a = b
  · subst h; rw [Nat.beq_refl]; simp
  · rw [decide_eq_false h]
    cases hb : Nat.beq a b with
    | false => rfl
    | true => exact absurd (Nat.eq_of_beq_eq_true hb) h
theorem aBt {a b : Nat} (h : Nat.beq a b = true) : a = b := Nat.eq_of_beq_eq_true h
theorem aBl {a b : Nat} (h : Nat.blt a b = true) : a < b := Nat.le_of_ble_eq_true h
theorem aBf {α : Type} {c : Bool} {a : Option α} {x : α} (h : (bif c then a else none) = some x) : c = true ∧ a = some x := by
  cases c with
  | true => exact ⟨rfl, h⟩
  | false => cases h
theorem aBa {a b : Bool} (h : (a && b) = true) : a = true ∧ b = true := by
  cases a with
  | true => exact ⟨rfl, h⟩
  | false => cases h
def aGt {α : Type} (d : α) (i : Nat) : List (Nat × α) → α
  | [] => d
  | e :: r => bif Nat.beq e.1 i then e.2 else aGt d i r
def aPt {α : Type} (i : Nat) (v : α) : List (Nat × α) → List (Nat × α)
  | [] => [(i, v)]
  | e :: r => bif Nat.beq e.1 i then (i, v) :: r else e :: aPt i v r
theorem aPt_ok {α : Type} (d : α) (i j : Nat) (v : α) : ∀ l : List (Nat × α), aGt d j (aPt i v l) = if j = i then v else aGt d j l := by
  intro l
  induction l with
  | nil =>
    show (bif Nat.beq i j then v else d) = _
    rw [aBq]
    by_cases h : j = i
    · rw [if_pos h, decide_eq_true h.symm]; rfl
    · rw [if_neg h, decide_eq_false (fun e => h e.symm)]; rfl
  | cons e r ih =>
    show aGt d j (bif Nat.beq e.1 i then (i, v) :: r else e :: aPt i v r) = if j = i then v else (bif Nat.beq e.1 j then e.2 else aGt d j r)
    rw [aBq e.1 i]
    by_cases h1 : e.1 = i
    · rw [decide_eq_true h1]
      show (bif Nat.beq i j then v else aGt d j r) = _
      rw [aBq, aBq]
      by_cases h : j = i
      · rw [if_pos h, decide_eq_true h.symm]; rfl
      · rw [if_neg h, decide_eq_false (fun e => h e.symm), decide_eq_false (fun e' => h (by rw [← e', h1]))]; rfl
    · rw [decide_eq_false h1]
      show (bif Nat.beq e.1 j then e.2 else aGt d j (aPt i v r)) = _
      rw [ih, aBq]
      by_cases h : j = i
      · rw [if_pos h, if_pos h, decide_eq_false (fun e' => h1 (by rw [e', h]))]; rfl
      · rw [if_neg h, if_neg h]
theorem map_set_range {β : Type} (n j : Nat) (f g : Nat → β) (v : β) (hg : ∀ i, g i = if i = j then v else f i) : (List.range n).map g = ((List.range n).map f).set j v := by
  apply List.ext_getElem?
  intro i
  rw [List.getElem?_set]
  by_cases hi : i < n
  · rw [List.getElem?_map, List.getElem?_range hi, List.getElem?_map, List.getElem?_range hi, List.length_map, List.length_range]
    show some (g i) = if j = i then (if j < n then some v else none) else some (f i)
    rw [hg]
    by_cases h : i = j
    · rw [if_pos h, if_pos h.symm, if_pos (by omega)]
    · rw [if_neg h, if_neg (fun e => h e.symm)]
  · have e1 : ∀ q : Nat → β, ((List.range n).map q)[i]? = none := fun q => by rw [List.getElem?_eq_none]; rw [List.length_map, List.length_range]; omega
    rw [e1, e1, List.length_map, List.length_range]
    by_cases h : j = i
    · rw [if_pos h, if_neg (by omega)]
    · rw [if_neg h]
def aTd (ty : FieldType) : tM := match ty with
  | .int => .int 0
  | .long => .long 0
  | .boolean => .int 0
  | _ => .null
def aTo (ty : FieldType) : Bool := match ty with
  | .int => true
  | .long => true
  | .boolean => true
  | .object _ => true
  | .array _ => true
  | _ => false
theorem aTd_ok (ι : aIn) {ty : FieldType} (h : aTo ty = true) : eT ι (aTd ty) = defaultValue ty := by
  cases ty <;> first | rfl | cases h
def aAd (c : Nat) : tM := bif Nat.beq c 21 then .long 0 else (bif Nat.beq c 20 || Nat.beq c 22 then .int 0 else .null)
abbrev aC : Type := Nat × Nat × List (Nat × tM)
abbrev aHp : Type := Nat × List (Nat × List (Nat × aC))
/-- an object (under 20), an array (20 and its tag), or a cell of which nothing is known -/
def eC (ι : aIn) (c : aC) : va_E :=
  if c.1 < 20 then .inr (c.1, (List.range c.2.1).map (fun i => eT ι (aGt (aTd (sTy c.1 i)) i c.2.2)))
  else if c.1 = 20 ∨ c.1 = 22 then .inl (c.1 - 20, c.2.1, .inl (fun i => vI (eT ι (aGt (aAd c.1) i c.2.2))))
  else if c.1 = 21 then .inl (1, c.2.1, .inr (.inl (fun i => vL (eT ι (aGt (aAd c.1) i c.2.2)))))
  else if c.1 < 26 then .inl (c.1 - 20, c.2.1, .inr (.inr (.inr (.inr (fun i => vR (eT ι (aGt (aAd c.1) i c.2.2)))))))
  else ι.2.2 c.2.1
theorem eC_o (ι : aIn) {c : aC} (h : c.1 < 20) : eC ι c = .inr (c.1, (List.range c.2.1).map (fun i => eT ι (aGt (aTd (sTy c.1 i)) i c.2.2))) := if_pos h
theorem eC_i (ι : aIn) {c : aC} (h : c.1 = 20 ∨ c.1 = 22) : eC ι c = .inl (c.1 - 20, c.2.1, .inl (fun i => vI (eT ι (aGt (aAd c.1) i c.2.2)))) := by
  unfold eC
  rw [if_neg (by omega), if_pos h]
theorem eC_l (ι : aIn) {c : aC} (h : c.1 = 21) : eC ι c = .inl (1, c.2.1, .inr (.inl (fun i => vL (eT ι (aGt (aAd c.1) i c.2.2))))) := by
  unfold eC
  rw [if_neg (by omega), if_neg (by omega), if_pos h]
theorem eC_r (ι : aIn) {c : aC} (h : 23 ≤ c.1 ∧ c.1 ≤ 25) : eC ι c = .inl (c.1 - 20, c.2.1, .inr (.inr (.inr (.inr (fun i => vR (eT ι (aGt (aAd c.1) i c.2.2))))))) := by
  unfold eC
  rw [if_neg (by omega), if_neg (by omega), if_neg (by omega), if_pos (by omega)]
def aNo : aC := (30, 0, [])
def aCe (h : aHp) (a : Nat) : aC := aGt aNo a (aGt [] (a / 16) h.2)
def aTr (h : aHp) (a : Nat) (c : aC) : List (Nat × List (Nat × aC)) := aPt (a / 16) (aPt a c (aGt [] (a / 16) h.2)) h.2
def aSe (h : aHp) (a : Nat) (c : aC) : aHp := (h.1, aTr h a c)
def aApp (h : aHp) (c : aC) : aHp := aF h.1 (fun m => aF (m + 1) (fun m1 => (m1, aTr h m c)))
theorem aTr_ok (h : aHp) (a b : Nat) (c : aC) (n : Nat) : aCe (n, aTr h a c) b = if b = a then c else aCe h b := by
  unfold aCe aTr
  dsimp only
  rw [aPt_ok]
  by_cases h1 : b / 16 = a / 16
  · rw [if_pos h1, aPt_ok, h1]
  · rw [if_neg h1, if_neg (fun e => h1 (by rw [e]))]
theorem aApp_eq (h : aHp) (c : aC) : aApp h c = (h.1 + 1, aTr h h.1 c) := by unfold aApp; rw [aF_eq, aF_eq]
abbrev eH (ι : aIn) (h : aHp) : sHp := (List.range h.1).map (fun a => eC ι (aCe h a))
theorem eH_len (ι : aIn) (h : aHp) : (eH ι h).length = h.1 := by rw [List.length_map, List.length_range]
theorem eH_at (ι : aIn) {h : aHp} {a : Nat} (ha : a < h.1) : (eH ι h)[a]? = some (eC ι (aCe h a)) := by
  rw [List.getElem?_map, List.getElem?_range ha]; rfl
theorem eH_set (ι : aIn) (h : aHp) (a : Nat) (c : aC) : eH ι (aSe h a c) = (eH ι h).set a (eC ι c) := by
  refine map_set_range h.1 a _ _ _ (fun i => ?_)
  unfold aSe
  rw [aTr_ok]
  by_cases e : i = a
  · rw [if_pos e, if_pos e]
  · rw [if_neg e, if_neg e]
theorem eH_app (ι : aIn) (h : aHp) (c : aC) : eH ι (aApp h c) = eH ι h ++ [eC ι c] := by
  rw [aApp_eq]
  unfold eH
  dsimp only
  rw [List.range_succ, List.map_append]
  congr 1
  · refine List.map_congr_left (fun i hi => ?_)
    rw [aTr_ok, if_neg]
    have := List.mem_range.mp hi
    omega
  · simp only [List.map_cons, List.map_nil]
    rw [aTr_ok, if_pos rfl]
/-! fields -/
def aGetF (k : Nat) (st : List tM) (h : aHp) : Option (List tM × aHp) := match st with
  | t :: r => (match t with
    | .index a => (match aCe h a with
      | (c, n, l) => bif Nat.blt a h.1 && (Nat.blt c 20 && (Nat.beq (sGrp c) (k / 64) && Nat.blt (k % 64) n)) then some (aGt (aTd (sTy c (k % 64))) (k % 64) l :: r, h) else none)
    | _ => none)
  | _ => none
theorem aGetF_ok (ι : aIn) {k : Nat} {st st1 : List tM} {h h1 : aHp} (g : aGetF k st h = some (st1, h1)) : sGetF k (eS ι st) (eH ι h) = some (eS ι st1, eH ι h1) := by
  unfold aGetF at g
  split at g
  · rename_i t r
    split at g
    · rename_i a
      split at g
      rename_i c n l hc
      obtain ⟨b, g⟩ := aBf g
      cases g
      obtain ⟨b1, b⟩ := aBa b
      obtain ⟨b2, b⟩ := aBa b
      obtain ⟨b3, b4⟩ := aBa b
      show sGetF k (.ref a :: eS ι r) (eH ι h) = _
      unfold sGetF
      dsimp only
      rw [eH_at ι (aBl b1), hc, eC_o ι (aBl b2)]
      dsimp only
      rw [if_pos (aBt b3), List.getElem?_map, List.getElem?_range (aBl b4)]
      rfl
    · cases g
  · cases g
def aBo (G : aG) (v : tM) : Bool := Nat.beq (kT v) 0 && (match aIv 6 G v with
  | (lo, hi) => decide (0 ≤ lo) && decide (hi ≤ 1))
theorem aBo_ok {ι : aIn} {G : aG} {v : tM} (h : aBo G v = true) (hG : aOk ι G) : ∃ x : Int32, eT ι v = .int x ∧ (x = 0 ∨ x = 1) := by
  obtain ⟨h1, h2⟩ := aBa h
  have h0 := aIv_ok hG 6 v
  split at h2
  rename_i lo hi he
  rw [he] at h0
  obtain ⟨h2, h3⟩ := aBa h2
  have h2 := of_decide_eq_true h2
  have h3 := of_decide_eq_true h3
  refine ⟨vI (eT ι v), kT_0 (aBt h1), ?_⟩
  unfold aW aZ at h0
  dsimp only at h0
  have h4 : (vI (eT ι v)).toInt = 0 ∨ (vI (eT ι v)).toInt = 1 := by omega
  rcases h4 with h4 | h4
  · exact Or.inl (Int32.toInt_inj.mp h4)
  · exact Or.inr (Int32.toInt_inj.mp h4)
def aFit (G : aG) (ty : FieldType) (v : tM) : Bool := match ty with
  | .int => Nat.beq (kT v) 0
  | .long => Nat.beq (kT v) 1
  | .boolean => aBo G v
  | .object _ => Nat.beq (kT v) 2
  | .array _ => Nat.beq (kT v) 2
  | _ => false
theorem aFit_ok {ι : aIn} {G : aG} {ty : FieldType} {v : tM} (h : aFit G ty v = true) (hG : aOk ι G) : sFit ty (eT ι v) = true := by
  unfold aFit at h
  split at h
  · rw [kT_0 (aBt h)]; rfl
  · rw [kT_1 (aBt h)]; rfl
  · obtain ⟨x, hx, h2⟩ := aBo_ok h hG
    rw [hx]
    exact decide_eq_true h2
  · rcases kT_2 (ι := ι) (aBt h) with ⟨k, rfl⟩ | rfl <;> rfl
  · rcases kT_2 (ι := ι) (aBt h) with ⟨k, rfl⟩ | rfl <;> rfl
  · cases h
def aPutF (k : Nat) (G : aG) (st : List tM) (h : aHp) : Option (List tM × aHp) := match st with
  | v :: t :: r => (match t with
    | .index a => (match aCe h a with
      | (c, n, l) => bif Nat.blt a h.1 && (Nat.blt c 20 && (Nat.beq (sGrp c) (k / 64) && (Nat.blt (k % 64) n && aFit G (sTy c (k % 64)) v))) then some (r, aSe h a (c, n, aPt (k % 64) v l)) else none)
    | _ => none)
  | _ => none
theorem aPutF_ok {ι : aIn} {k : Nat} {G : aG} {st st1 : List tM} {h h1 : aHp} (g : aPutF k G st h = some (st1, h1)) (hG : aOk ι G) : sPutF k (eS ι st) (eH ι h) = some (eS ι st1, eH ι h1) := by
  unfold aPutF at g
  split at g
  · rename_i v t r
    split at g
    · rename_i a
      split at g
      rename_i c n l hc
      obtain ⟨b, g⟩ := aBf g
      cases g
      obtain ⟨b1, b⟩ := aBa b
      obtain ⟨b2, b⟩ := aBa b
      obtain ⟨b3, b⟩ := aBa b
      obtain ⟨b4, b5⟩ := aBa b
      show sPutF k (eT ι v :: .ref a :: eS ι st1) (eH ι h) = _
      unfold sPutF
      dsimp only
      rw [eH_at ι (aBl b1), hc, eC_o ι (aBl b2)]
      dsimp only
      rw [if_pos ⟨aBt b3, by rw [List.length_map, List.length_range]; exact aBl b4, aFit_ok b5 hG⟩, eH_set, eC_o ι (c := (c, n, aPt (k % 64) v l)) (aBl b2)]
      dsimp only
      rw [map_set_range n (k % 64) (fun i => eT ι (aGt (aTd (sTy c i)) i l)) (fun i => eT ι (aGt (aTd (sTy c i)) i (aPt (k % 64) v l))) (eT ι v) (fun i => by
        rw [aPt_ok]
        by_cases e : i = k % 64
        · rw [if_pos e, if_pos e]
        · rw [if_neg e, if_neg e])]
    · cases g
  · cases g
/-! arrays -/
def aNt (G : aG) (i : tM) : Option Nat := match aNm G i with
  | .int x => (match x.toInt with
    | .ofNat j => some j
    | _ => none)
  | _ => none
theorem aNt_ok {ι : aIn} {G : aG} {i : tM} {j : Nat} (h : aNt G i = some j) (hG : aOk ι G) : ∃ x : Int32, eT ι i = .int x ∧ x.toInt = (j : Int) ∧ ¬ x < 0 ∧ x.toNatClampNeg = j := by
  unfold aNt at h
  split at h
  · rename_i x hx
    split at h
    · rename_i j' hj
      cases h
      refine ⟨x, by rw [← aNm_ok hG, hx]; rfl, hj, ?_, ?_⟩
      · rw [Int32.lt_iff_toInt_lt, hj]
        show ¬ (_ < (0 : Int))
        exact Int.not_lt.mpr (Int.natCast_nonneg _)
      · show x.toInt.toNat = _
        rw [hj]
        rfl
    · cases h
  · cases h
def aTg (w c : Nat) : Bool := match w with
  | 0 => Nat.beq c 20
  | 1 => Nat.beq c 21
  | 2 => Nat.beq c 22
  | _ => Nat.ble 23 c && Nat.ble c 25
def aTk (w : Nat) : Nat := match w with
  | 0 => 0
  | 1 => 1
  | 2 => 0
  | _ => 2
def aLdW (w : Nat) (G : aG) (st : List tM) (h : aHp) : Option (List tM × aHp) := match st with
  | i :: t :: r => (match t with
    | .index a => (match aCe h a with
      | (c, n, l) => (match aNt G i with
        | some j => bif Nat.blt a h.1 && (aTg w c && (Nat.blt j n && Nat.beq (kT (aGt (aAd c) j l)) (aTk w))) then some (aGt (aAd c) j l :: r, h) else none
        | none => none))
    | _ => none)
  | _ => none
theorem aLdW_ok {ι : aIn} {w : Nat} {G : aG} {st st1 : List tM} {h h1 : aHp} (g : aLdW w G st h = some (st1, h1)) (hG : aOk ι G) :
    (w = 0 → sLdAI 0 (eS ι st) (eH ι h) = some (eS ι st1, eH ι h1)) ∧ (w = 1 → sLdAL (eS ι st) (eH ι h) = some (eS ι st1, eH ι h1)) ∧ (w = 2 → sLdAI 2 (eS ι st) (eH ι h) = some (eS ι st1, eH ι h1)) ∧ (w = 3 → sLdAA (eS ι st) (eH ι h) = some (eS ι st1, eH ι h1)) := by
  unfold aLdW at g
  split at g
  · rename_i i t r
    split at g
    · rename_i a
      split at g
      rename_i c n l hc
      split at g
      · rename_i j hj
        obtain ⟨b, g⟩ := aBf g
        cases g
        obtain ⟨b1, b⟩ := aBa b
        obtain ⟨b2, b⟩ := aBa b
        obtain ⟨b3, b4⟩ := aBa b
        obtain ⟨x, x1, -, x2, x3⟩ := aNt_ok hj hG
        have hjn := aBl b3
        have hx : ¬ (x < 0 ∨ n ≤ x.toNatClampNeg) := by rw [x3]; exact fun e => e.elim x2 (fun e => by omega)
        have hat := eH_at ι (aBl b1)
        rw [hc] at hat
        have hk := aBt b4
        refine ⟨fun e => ?_, fun e => ?_, fun e => ?_, fun e => ?_⟩
        · subst e
          have hc0 : c = 20 := aBt b2
          rw [eC_i ι (c := (c, n, l)) (Or.inl hc0)] at hat
          show sLdAI 0 (eT ι i :: .ref a :: eS ι r) (eH ι h) = some (eT ι (aGt (aAd c) j l) :: eS ι r, eH ι h)
          unfold sLdAI
          rw [x1]
          dsimp only
          rw [hat]
          dsimp only
          rw [if_pos ⟨by rw [hc0], hx⟩, x3, ← kT_0 hk]
        · subst e
          have hc0 : c = 21 := aBt b2
          rw [eC_l ι (c := (c, n, l)) hc0] at hat
          show sLdAL (eT ι i :: .ref a :: eS ι r) (eH ι h) = some (eT ι (aGt (aAd c) j l) :: eS ι r, eH ι h)
          unfold sLdAL
          rw [x1]
          dsimp only
          rw [hat]
          dsimp only
          rw [if_pos ⟨rfl, hx⟩, x3, ← kT_1 hk]
        · subst e
          have hc0 : c = 22 := aBt b2
          rw [eC_i ι (c := (c, n, l)) (Or.inr hc0)] at hat
          show sLdAI 2 (eT ι i :: .ref a :: eS ι r) (eH ι h) = some (eT ι (aGt (aAd c) j l) :: eS ι r, eH ι h)
          unfold sLdAI
          rw [x1]
          dsimp only
          rw [hat]
          dsimp only
          rw [if_pos ⟨by rw [hc0], hx⟩, x3, ← kT_0 hk]
        · subst e
          have hc0 : 23 ≤ c ∧ c ≤ 25 := ⟨Nat.le_of_ble_eq_true (aBa b2).1, Nat.le_of_ble_eq_true (aBa b2).2⟩
          rw [eC_r ι (c := (c, n, l)) hc0] at hat
          show sLdAA (eT ι i :: .ref a :: eS ι r) (eH ι h) = some (eT ι (aGt (aAd c) j l) :: eS ι r, eH ι h)
          unfold sLdAA
          rw [x1]
          dsimp only
          rw [hat]
          dsimp only
          rw [if_pos ⟨(show c - 20 = 3 ∨ c - 20 = 4 ∨ c - 20 = 5 by omega), hx⟩, x3]
          rcases kT_2 (ι := ι) hk with ⟨q, e⟩ | e <;> rw [e] <;> rfl
      · cases g
    · cases g
  · cases g
def aOb (t : Nat) (h : aHp) (q : Nat) : Bool := match aCe h q with
  | (c, _, _) => Nat.blt q h.1 && (Nat.blt c 20 && ((t == 3 && c == 7) || (t == 4 && (sGrp c == 2 && decide (c < 11)))))
theorem aOb_ok (ι : aIn) {t : Nat} {h : aHp} {q : Nat} (g : aOb t h q = true) : sIsObj t (eH ι h)[q]? = true := by
  unfold aOb at g
  split at g
  rename_i c n l hc
  obtain ⟨b1, g⟩ := aBa g
  obtain ⟨b2, g⟩ := aBa g
  rw [eH_at ι (aBl b1), hc, eC_o ι (c := (c, n, l)) (aBl b2)]
  exact g
def aStO (w c : Nat) (G : aG) (v : tM) (h : aHp) : Bool := match w with
  | 2 => aBo G v
  | 3 => (match v with
    | .index q => aOb (c - 20) h q
    | .null => Nat.ble c 24
    | _ => false)
  | _ => Nat.beq (kT v) (aTk w)
theorem aStO_3 {c : Nat} {G : aG} {v : tM} {h : aHp} (b : aStO 3 c G v h = true) : (∃ q, v = .index q ∧ aOb (c - 20) h q = true) ∨ (v = .null ∧ c ≤ 24) := by
  cases v with
  | index q => exact Or.inl ⟨q, rfl, b⟩
  | null => exact Or.inr ⟨rfl, Nat.le_of_ble_eq_true b⟩
  | _ => cases b
def aStW (w : Nat) (G : aG) (st : List tM) (h : aHp) : Option (List tM × aHp) := match st with
  | v :: i :: t :: r => (match t with
    | .index a => (match aCe h a with
      | (c, n, l) => (match aNt G i with
        | some j => bif Nat.blt a h.1 && (aTg w c && (Nat.blt j n && aStO w c G v h)) then some (r, aSe h a (c, n, aPt j v l)) else none
        | none => none))
    | _ => none)
  | _ => none
theorem eC_upI (ι : aIn) (c n : Nat) (hc : c = 20 ∨ c = 22) (l : List (Nat × tM)) (j : Nat) (v : tM) : eC ι (c, n, aPt j v l) = .inl (c - 20, n, .inl (upd (fun i => vI (eT ι (aGt (aAd c) i l))) j (vI (eT ι v)))) := by
  rw [eC_i ι (c := (c, n, aPt j v l)) hc]
  dsimp only
  congr 4
  funext i
  rw [aPt_ok]
  unfold upd
  by_cases e : i = j
  · rw [if_pos e, if_pos e]
  · rw [if_neg e, if_neg e]
theorem eC_upL (ι : aIn) (n : Nat) (l : List (Nat × tM)) (j : Nat) (v : tM) : eC ι (21, n, aPt j v l) = .inl (1, n, .inr (.inl (vp_updL (fun i => vL (eT ι (aGt (aAd 21) i l))) j (vL (eT ι v))))) := by
  rw [eC_l ι (c := (21, n, aPt j v l)) rfl]
  dsimp only
  congr 5
  funext i
  rw [aPt_ok]
  unfold vp_updL
  by_cases e : i = j
  · rw [if_pos e, if_pos e]
  · rw [if_neg e, if_neg e]
theorem eC_upR (ι : aIn) (c n : Nat) (hc : 23 ≤ c ∧ c ≤ 25) (l : List (Nat × tM)) (j : Nat) (v : tM) : eC ι (c, n, aPt j v l) = .inl (c - 20, n, .inr (.inr (.inr (.inr (va_up (fun i => vR (eT ι (aGt (aAd c) i l))) j (vR (eT ι v))))))) := by
  rw [eC_r ι (c := (c, n, aPt j v l)) hc]
  dsimp only
  congr 7
  funext i
  rw [aPt_ok]
  unfold va_up
  by_cases e : i = j
  · rw [if_pos e, if_pos e]
  · rw [if_neg e, if_neg e]
theorem aStW_ok {ι : aIn} {w : Nat} {G : aG} {st st1 : List tM} {h h1 : aHp} (g : aStW w G st h = some (st1, h1)) (hG : aOk ι G) :
    (w = 0 → sStAI (eS ι st) (eH ι h) = some (eS ι st1, eH ι h1)) ∧ (w = 1 → sStAL (eS ι st) (eH ι h) = some (eS ι st1, eH ι h1)) ∧ (w = 2 → sStAZ (eS ι st) (eH ι h) = some (eS ι st1, eH ι h1)) ∧ (w = 3 → sStAA (eS ι st) (eH ι h) = some (eS ι st1, eH ι h1)) := by
  unfold aStW at g
  split at g
  · rename_i v i t r
    split at g
    · rename_i a
      split at g
      rename_i c n l hc
      split at g
      · rename_i j hj
        obtain ⟨b, g⟩ := aBf g
        cases g
        obtain ⟨b1, b⟩ := aBa b
        obtain ⟨b2, b⟩ := aBa b
        obtain ⟨b3, b4⟩ := aBa b
        obtain ⟨x, x1, -, x2, x3⟩ := aNt_ok hj hG
        have hjn := aBl b3
        have hx : ¬ (x < 0 ∨ n ≤ x.toNatClampNeg) := by rw [x3]; exact fun e => e.elim x2 (fun e => by omega)
        have hat := eH_at ι (aBl b1)
        rw [hc] at hat
        refine ⟨fun e => ?_, fun e => ?_, fun e => ?_, fun e => ?_⟩
        · subst e
          have hc0 : c = 20 := aBt b2
          have hv : kT v = 0 := aBt b4
          rw [eC_i ι (c := (c, n, l)) (Or.inl hc0)] at hat
          show sStAI (eT ι v :: eT ι i :: .ref a :: eS ι st1) (eH ι h) = _
          unfold sStAI
          rw [x1, kT_0 hv]
          dsimp only
          rw [hat]
          dsimp only
          rw [if_pos ⟨by rw [hc0], hx⟩, x3, eH_set, eC_upI ι c n (Or.inl hc0)]
        · subst e
          have hc0 : c = 21 := aBt b2
          have hv : kT v = 1 := aBt b4
          subst hc0
          rw [eC_l ι (c := (21, n, l)) rfl] at hat
          show sStAL (eT ι v :: eT ι i :: .ref a :: eS ι st1) (eH ι h) = _
          unfold sStAL
          rw [x1, kT_1 hv]
          dsimp only
          rw [hat]
          dsimp only
          rw [if_pos ⟨rfl, hx⟩, x3, eH_set, eC_upL]
        · subst e
          have hc0 : c = 22 := aBt b2
          obtain ⟨y, y1, y2⟩ := aBo_ok b4 hG
          rw [eC_i ι (c := (c, n, l)) (Or.inr hc0)] at hat
          show sStAZ (eT ι v :: eT ι i :: .ref a :: eS ι st1) (eH ι h) = _
          unfold sStAZ
          rw [x1, y1]
          dsimp only
          rw [hat]
          dsimp only
          rw [if_pos ⟨by rw [hc0], y2, hx⟩, x3, eH_set, eC_upI ι c n (Or.inr hc0), y1]
          rfl
        · subst e
          have hc0 : 23 ≤ c ∧ c ≤ 25 := ⟨Nat.le_of_ble_eq_true (aBa b2).1, Nat.le_of_ble_eq_true (aBa b2).2⟩
          rw [eC_r ι (c := (c, n, l)) hc0] at hat
          show sStAA (eT ι v :: eT ι i :: .ref a :: eS ι st1) (eH ι h) = _
          rcases aStO_3 b4 with ⟨q, rfl, b5⟩ | ⟨rfl, hc1⟩
          · unfold sStAA
            rw [x1]
            show (match (eH ι h)[a]? with | some (.inl (t, n, .inr (.inr (.inr (.inr f))))) => _ | _ => none) = _
            rw [hat]
            dsimp only
            rw [if_pos ⟨aOb_ok ι b5, hx⟩, x3, eH_set, eC_upR ι c n hc0]
            rfl
          · unfold sStAA
            rw [x1]
            show (match (eH ι h)[a]? with | some (.inl (t, n, .inr (.inr (.inr (.inr f))))) => _ | _ => none) = _
            rw [hat]
            dsimp only
            rw [if_pos ⟨(show c - 20 = 3 ∨ c - 20 = 4 by omega), hx⟩, x3, eH_set, eC_upR ι c n hc0]
            rfl
      · cases g
    · cases g
  · cases g
def aLen (st : List tM) (h : aHp) : Option (List tM × aHp) := match st with
  | t :: r => (match t with
    | .index a => (match aCe h a with
      | (c, n, _) => bif Nat.blt a h.1 && (Nat.ble 20 c && Nat.ble c 25) then some (aCi (Int.ofNat n) :: r, h) else none)
    | _ => none)
  | _ => none
theorem aLen_ok (ι : aIn) {st st1 : List tM} {h h1 : aHp} (g : aLen st h = some (st1, h1)) : sALen (eS ι st) (eH ι h) = some (eS ι st1, eH ι h1) := by
  unfold aLen at g
  split at g
  · rename_i t r
    split at g
    · rename_i a
      split at g
      rename_i c n l hc
      obtain ⟨b, g⟩ := aBf g
      cases g
      obtain ⟨b1, b⟩ := aBa b
      obtain ⟨b2, b3⟩ := aBa b
      have h2 := Nat.le_of_ble_eq_true b2
      have h3 := Nat.le_of_ble_eq_true b3
      have hat := eH_at ι (aBl b1)
      rw [hc] at hat
      show sALen (.ref a :: eS ι r) (eH ι h) = some (eT ι (aCi (Int.ofNat n)) :: eS ι r, eH ι h)
      have en : eT ι (aCi (Int.ofNat n)) = .int (Int32.ofNat n) := by rw [aCi_ok]; congr 1
      unfold sALen
      dsimp only
      rw [en, hat]
      by_cases q1 : c = 20 ∨ c = 22
      · rw [eC_i ι (c := (c, n, l)) q1]
        exact if_pos (show c - 20 < 6 by omega)
      · by_cases q2 : c = 21
        · rw [eC_l ι (c := (c, n, l)) q2]
          exact if_pos (show 1 < 6 by omega)
        · rw [eC_r ι (c := (c, n, l)) (by dsimp only; omega)]
          exact if_pos (show c - 20 < 6 by omega)
    · cases g
  · cases g
/-! new cells -/
def aNk (k : Nat) : Bool := Nat.blt k 13 && (List.range (sNF k)).all (fun i => aTo (sTy k i))
def aNew (k : Nat) (st : List tM) (h : aHp) : Option (List tM × aHp) := bif aNk k then aF h.1 (fun m => aF (sNF k) (fun n => some (.index m :: st, aApp h (k, n, [])))) else none
theorem aNew_ok (ι : aIn) {k : Nat} {st st1 : List tM} {h h1 : aHp} (g : aNew k st h = some (st1, h1)) : sNew k (eS ι st) (eH ι h) = some (eS ι st1, eH ι h1) := by
  unfold aNew at g
  rw [aF_eq, aF_eq] at g
  obtain ⟨b, g⟩ := aBf g
  cases g
  obtain ⟨b1, b2⟩ := aBa b
  have hk := aBl b1
  unfold sNew
  rw [if_pos hk, eH_app, eH_len, eC_o ι (c := (k, sNF k, [])) (by dsimp only; omega)]
  have e : (List.range (sNF k)).map (fun i => eT ι (aGt (aTd (sTy k i)) i [])) = sDef k := by
    unfold sDef
    refine List.map_congr_left (fun i hi => ?_)
    exact aTd_ok ι (List.all_eq_true.mp b2 i hi)
  dsimp only
  rw [e]
  rfl
def aLn (G : aG) (t : tM) : Option Nat := match aNt G t with
  | some j => bif Nat.ble j 100000 then some j else none
  | none => none
theorem aLn_ok {ι : aIn} {G : aG} {t : tM} {j : Nat} (h : aLn G t = some j) (hG : aOk ι G) : ∃ x : Int32, eT ι t = .int x ∧ ¬ (x < 0 ∨ 100000 < x.toNatClampNeg) ∧ x.toNatClampNeg = j := by
  unfold aLn at h
  split at h
  · rename_i j' hj
    obtain ⟨b, h⟩ := aBf h
    cases h
    obtain ⟨x, x1, -, x2, x3⟩ := aNt_ok hj hG
    have hb := Nat.le_of_ble_eq_true b
    exact ⟨x, x1, by rw [x3]; exact fun e => e.elim x2 (fun e => by omega), x3⟩
  · cases h
def aTy (ty : ArrayType) : Nat := match ty with
  | .int => 20
  | .long => 21
  | .boolean => 22
  | _ => 30
def aNewA (ty : ArrayType) (G : aG) (st : List tM) (h : aHp) : Option (List tM × aHp) := match st with
  | t :: r => (match aLn G t with
    | some n => bif Nat.blt (aTy ty) 30 then aF h.1 (fun m => aF (aTy ty) (fun c => some (.index m :: r, aApp h (c, n, [])))) else none
    | none => none)
  | _ => none
theorem aNewA_ok {ι : aIn} {ty : ArrayType} {G : aG} {st st1 : List tM} {h h1 : aHp} (g : aNewA ty G st h = some (st1, h1)) (hG : aOk ι G) : sNewA ty (eS ι st) (eH ι h) = some (eS ι st1, eH ι h1) := by
  unfold aNewA at g
  split at g
  · rename_i t r
    split at g
    · rename_i n hn
      rw [aF_eq, aF_eq] at g
      obtain ⟨b, g⟩ := aBf g
      cases g
      have hb := aBl b
      obtain ⟨x, x1, x2, x3⟩ := aLn_ok hn hG
      show sNewA ty (eT ι t :: eS ι r) (eH ι h) = _
      unfold sNewA
      rw [x1]
      dsimp only
      rw [if_neg x2, eH_app, eH_len, x3]
      cases ty <;> first | rfl | exact absurd hb (by decide)
    · cases g
  · cases g
def aNewQ (k : Nat) (G : aG) (st : List tM) (h : aHp) : Option (List tM × aHp) := match st with
  | t :: r => (match aLn G t with
    | some n => bif Nat.beq k 3 || Nat.beq k 4 then aF h.1 (fun m => aF (20 + k) (fun c => some (.index m :: r, aApp h (c, n, [])))) else none
    | none => none)
  | _ => none
theorem aNewQ_ok {ι : aIn} {k : Nat} {G : aG} {st st1 : List tM} {h h1 : aHp} (g : aNewQ k G st h = some (st1, h1)) (hG : aOk ι G) : sNewQ k (eS ι st) (eH ι h) = some (eS ι st1, eH ι h1) := by
  unfold aNewQ at g
  split at g
  · rename_i t r
    split at g
    · rename_i n hn
      rw [aF_eq, aF_eq] at g
      obtain ⟨b, g⟩ := aBf g
      cases g
      have hk : k = 3 ∨ k = 4 := by
        rw [Bool.or_eq_true] at b
        exact b.imp aBt aBt
      obtain ⟨x, x1, x2, x3⟩ := aLn_ok hn hG
      show sNewQ k (eT ι t :: eS ι r) (eH ι h) = _
      unfold sNewQ
      rw [x1]
      dsimp only
      rw [if_neg (show ¬ (x < 0 ∨ 100000 < x.toNatClampNeg ∨ ¬ (k = 3 ∨ k = 4)) from fun e => e.elim (fun e => x2 (Or.inl e)) (fun e => e.elim (fun e => x2 (Or.inr e)) (fun e => e hk))), eH_app, eH_len, x3]
      rcases hk with rfl | rfl <;> rfl
    · cases g
  · cases g
def aNewM (G : aG) (st : List tM) (h : aHp) : Option (List tM × aHp) := match st with
  | t :: u :: r => (match aNt G u with
    | some n => (match aNt G t with
      | some k => bif Nat.beq n 5 && Nat.beq k 6 then aF h.1 (fun m => some (.index m :: r, aApp (aApp (aApp (aApp (aApp (aApp h (25, 5, [(0, .index (m + 1)), (1, .index (m + 2)), (2, .index (m + 3)), (3, .index (m + 4)), (4, .index (m + 5))])) (20, 6, [])) (20, 6, [])) (20, 6, [])) (20, 6, [])) (20, 6, []))) else none
      | none => none)
    | none => none)
  | _ => none
theorem aNewM_ok {ι : aIn} {G : aG} {st st1 : List tM} {h h1 : aHp} (g : aNewM G st h = some (st1, h1)) (hG : aOk ι G) : sNewM (eS ι st) (eH ι h) = some (eS ι st1, eH ι h1) := by
  unfold aNewM at g
  split at g
  · rename_i t u r
    split at g
    · rename_i n hn
      split at g
      · rename_i k hk
        rw [aF_eq] at g
        obtain ⟨b, g⟩ := aBf g
        cases g
        obtain ⟨b1, b2⟩ := aBa b
        cases aBt b1
        cases aBt b2
        obtain ⟨x, x1, x2, -, -⟩ := aNt_ok hn hG
        obtain ⟨y, y1, y2, -, -⟩ := aNt_ok hk hG
        have ex : x = 5 := Int32.toInt_inj.mp x2
        have ey : y = 6 := Int32.toInt_inj.mp y2
        show sNewM (eT ι t :: eT ι u :: eS ι r) (eH ι h) = _
        unfold sNewM
        rw [x1, y1]
        dsimp only
        rw [if_pos ⟨ex, ey⟩]
        rw [eH_app, eH_app, eH_app, eH_app, eH_app, eH_app, eH_len]
        simp only [List.append_assoc, List.cons_append, List.nil_append]
        have e1 : eC ι (25, 5, [(0, .index (h.1 + 1)), (1, .index (h.1 + 2)), (2, .index (h.1 + 3)), (3, .index (h.1 + 4)), (4, .index (h.1 + 5))]) = .inl (5, 5, .inr (.inr (.inr (.inr (fun j => if j < 5 then some (h.1 + 1 + j) else none))))) := by
          rw [eC_r ι (by dsimp only; omega)]
          dsimp only
          congr 7
          funext i
          match i with
          | 0 => rfl
          | 1 => rfl
          | 2 => rfl
          | 3 => rfl
          | 4 => rfl
          | i + 5 =>
            rw [if_neg (by omega)]
            rfl
        rw [e1]
        rfl
      · cases g
    · cases g
  · cases g
def aHeap (ins : Instr) (G : aG) (st : List tM) (h : aHp) : Option (List tM × aHp) := match ins with
  | .getfield k => aGetF k st h
  | .putfield k => aPutF k G st h
  | .iaload => aLdW 0 G st h
  | .baload => aLdW 2 G st h
  | .laload => aLdW 1 G st h
  | .aaload => aLdW 3 G st h
  | .iastore => aStW 0 G st h
  | .bastore => aStW 2 G st h
  | .lastore => aStW 1 G st h
  | .aastore => aStW 3 G st h
  | .arraylength => aLen st h
  | .new k => aNew k st h
  | .newarray ty => aNewA ty G st h
  | .anewarray k => aNewQ k G st h
  | .multianewarray _ _ => aNewM G st h
  | .ldc2_w k => some (.long (Int64.ofNat k) :: st, h)
  | .ldc k => bif Nat.blt k 4294967296 then some (.int (Int32.ofNat k) :: st, h) else none
  | .ldc_w k => some (.int (Int32.ofNat k) :: st, h)
  | _ => none
theorem aHeap_ok {ι : aIn} {ins : Instr} {G : aG} {st st1 : List tM} {h h1 : aHp} (g : aHeap ins G st h = some (st1, h1)) (hG : aOk ι G) : sHeap ins (eS ι st) (eH ι h) = some (eS ι st1, eH ι h1) := by
  unfold aHeap at g
  split at g
  · exact aGetF_ok ι g
  · exact aPutF_ok g hG
  · exact (aLdW_ok g hG).1 rfl
  · exact (aLdW_ok g hG).2.2.1 rfl
  · exact (aLdW_ok g hG).2.1 rfl
  · exact (aLdW_ok g hG).2.2.2 rfl
  · exact (aStW_ok g hG).1 rfl
  · exact (aStW_ok g hG).2.2.1 rfl
  · exact (aStW_ok g hG).2.1 rfl
  · exact (aStW_ok g hG).2.2.2 rfl
  · exact aLen_ok ι g
  · exact aNew_ok ι g
  · exact aNewA_ok g hG
  · exact aNewQ_ok g hG
  · exact aNewM_ok g hG
  · cases g; rfl
  · obtain ⟨b, g⟩ := aBf g
    cases g
    exact if_pos (aBl b)
  · cases g; rfl
  · cases g
