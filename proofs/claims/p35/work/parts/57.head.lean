/-! ===== states compared ===== -/
theorem aGt_not {α : Type} (d : α) (i : Nat) : ∀ l : List (Nat × α), (∀ e ∈ l, e.1 ≠ i) → aGt d i l = d := by
  intro l
  induction l with
  | nil => intro _; rfl
  | cons e r ih =>
    intro h
    unfold aGt
    rw [aBq, decide_eq_false (h e List.mem_cons_self)]
    exact ih (fun e' he => h e' (List.mem_cons_of_mem _ he))
theorem aGt_mem {α : Type} (d : α) (i : Nat) : ∀ l : List (Nat × α), aGt d i l = d ∨ ∃ e ∈ l, aGt d i l = e.2 := by
  intro l
  induction l with
  | nil => exact Or.inl rfl
  | cons e r ih =>
    unfold aGt
    cases Nat.beq e.1 i with
    | true => exact Or.inr ⟨e, List.mem_cons_self, rfl⟩
    | false =>
      rcases ih with h | ⟨e', he, h⟩
      · exact Or.inl h
      · exact Or.inr ⟨e', List.mem_cons_of_mem _ he, h⟩
def aLEq (d : Nat → tM) (l1 l2 : List (Nat × tM)) : Bool := l1.all (fun e => tBq 24 (aGt (d e.1) e.1 l1) (aGt (d e.1) e.1 l2)) && l2.all (fun e => tBq 24 (aGt (d e.1) e.1 l1) (aGt (d e.1) e.1 l2))
theorem aLEq_ok {d : Nat → tM} {l1 l2 : List (Nat × tM)} (h : aLEq d l1 l2 = true) (i : Nat) : aGt (d i) i l1 = aGt (d i) i l2 := by
  obtain ⟨h1, h2⟩ := aBa h
  by_cases a : ∃ e ∈ l1, e.1 = i
  · obtain ⟨e, he, rfl⟩ := a
    exact tBq_eq _ _ _ (List.all_eq_true.mp h1 e he)
  · by_cases b : ∃ e ∈ l2, e.1 = i
    · obtain ⟨e, he, rfl⟩ := b
      exact tBq_eq _ _ _ (List.all_eq_true.mp h2 e he)
    · rw [aGt_not _ _ _ (fun e he q => a ⟨e, he, q⟩), aGt_not _ _ _ (fun e he q => b ⟨e, he, q⟩)]
def aDc (c : Nat) (i : Nat) : tM := bif Nat.blt c 20 then aTd (sTy c i) else aAd c
def aCEq (x y : aC) : Bool := match x with
  | (c, n, l) => (match y with
    | (c', n', l') => Nat.beq c c' && (Nat.beq n n' && aLEq (aDc c) l l'))
theorem aCEq_ok (ι : aIn) {x y : aC} (h : aCEq x y = true) : eC ι x = eC ι y := by
  obtain ⟨c, n, l⟩ := x
  obtain ⟨c', n', l'⟩ := y
  obtain ⟨h1, h⟩ := aBa h
  obtain ⟨h2, h3⟩ := aBa h
  cases aBt h1
  cases aBt h2
  have h4 := aLEq_ok h3
  by_cases hc : c < 20
  · rw [eC_o ι (c := (c, n, l)) hc, eC_o ι (c := (c, n, l')) hc]
    have e : ∀ i, aDc c i = aTd (sTy c i) := fun i => by
      unfold aDc
      rw [show Nat.blt c 20 = true from Nat.ble_eq_true_of_le hc]; rfl
    congr 2
    refine List.map_congr_left (fun i _ => ?_)
    have := h4 i
    rw [e] at this
    exact congrArg (eT ι) this
  · have e : ∀ i, aDc c i = aAd c := fun i => by
      unfold aDc
      cases hb : Nat.blt c 20 with
      | true => exact absurd (aBl hb) hc
      | false => rfl
    have h5 : ∀ i, aGt (aAd c) i l = aGt (aAd c) i l' := fun i => by
      have := h4 i
      rw [e] at this
      exact this
    unfold eC
    simp only [h5]
    rw [if_neg hc, if_neg hc]
def aHq (h1 h2 : aHp) : Bool := Nat.beq h1.1 h2.1 && (List.range h1.1).all (fun a => aCEq (aCe h1 a) (aCe h2 a))
theorem aHq_ok (ι : aIn) {h1 h2 : aHp} (h : aHq h1 h2 = true) : eH ι h1 = eH ι h2 := by
  obtain ⟨a, b⟩ := aBa h
  unfold eH
  rw [← aBt a]
  refine List.map_congr_left (fun i hi => ?_)
  exact aCEq_ok ι (List.all_eq_true.mp b i hi)
def aOq : Option tM → Option tM → Bool
  | none, none => true
  | some a, some b => tBq 40 a b
  | _, _ => false
def aLq : aLo → aLo → Bool
  | [], [] => true
  | a :: r, b :: s => aOq a b && aLq r s
  | _, _ => false
def aSq : List tM → List tM → Bool
  | [], [] => true
  | a :: r, b :: s => tBq 40 a b && aSq r s
  | _, _ => false
theorem aOq_ok {a b : Option tM} (h : aOq a b = true) : a = b := by
  cases a with
  | none =>
    cases b with
    | none => rfl
    | some b => cases h
  | some a =>
    cases b with
    | none => cases h
    | some b => rw [tBq_eq _ _ _ h]
theorem aLq_ok : ∀ {a b : aLo}, aLq a b = true → a = b := by
  intro a
  induction a with
  | nil =>
    intro b h
    cases b with
    | nil => rfl
    | cons _ _ => cases h
  | cons x r ih =>
    intro b h
    cases b with
    | nil => cases h
    | cons y s =>
      obtain ⟨h1, h2⟩ := aBa h
      rw [aOq_ok h1, ih h2]
theorem aSq_ok : ∀ {a b : List tM}, aSq a b = true → a = b := by
  intro a
  induction a with
  | nil =>
    intro b h
    cases b with
    | nil => rfl
    | cons _ _ => cases h
  | cons x r ih =>
    intro b h
    cases b with
    | nil => cases h
    | cons y s =>
      obtain ⟨h1, h2⟩ := aBa h
      rw [tBq_eq _ _ _ h1, ih h2]
def aGq (G G' : aG) : Bool := G'.all (fun e => decide (e.2.1 ≤ (aIv 6 G e.1).1) && decide ((aIv 6 G e.1).2 ≤ e.2.2))
theorem aGq_ok {ι : aIn} {G G' : aG} (h : aGq G G' = true) (hG : aOk ι G) : aOk ι G' := by
  intro e he
  obtain ⟨h1, h2⟩ := aBa (List.all_eq_true.mp h e he)
  have h1 := of_decide_eq_true h1
  have h2 := of_decide_eq_true h2
  have h0 := aIv_ok hG 6 e.1
  unfold aW at h0
  omega
abbrev aTp5 : Type := Nat × aLo × List tM × aHp × aG
def aTq (x : aTp5) (pc : Nat) (L : aLo) (st : List tM) (h : aHp) (G : aG) : Bool := Nat.beq pc x.1 && (aLq L x.2.1 && (aSq st x.2.2.1 && (aGq G x.2.2.2.2 && aHq h x.2.2.2.1)))
def aPr (ι : aIn) (X : sX) (k0 d0 : Nat) (Q : Option Value → sHp → Prop) (x : aTp5) : Prop := sGo X k0 d0 x.1 (eL ι x.2.1) (eS ι x.2.2.1) (eH ι x.2.2.2.1) Q
theorem aTq_ok {ι : aIn} {X : sX} {k0 d0 : Nat} {Q : Option Value → sHp → Prop} {x : aTp5} {pc : Nat} {L : aLo} {st : List tM} {h : aHp} {G : aG} (g : aTq x pc L st h G = true) (hG : aOk ι G) (k : aOk ι x.2.2.2.2 → aPr ι X k0 d0 Q x) : sGo X k0 d0 pc (eL ι L) (eS ι st) (eH ι h) Q := by
  obtain ⟨g1, g⟩ := aBa g
  obtain ⟨g2, g⟩ := aBa g
  obtain ⟨g3, g⟩ := aBa g
  obtain ⟨g4, g5⟩ := aBa g
  have k1 := k (aGq_ok g4 hG)
  unfold aPr at k1
  rw [aBt g1, aLq_ok g2, aSq_ok g3, aHq_ok ι g5]
  exact k1
def aH0 : aHp := (79, [(0, [(0, (11, 11, [(0, .index 1), (1, .index 2), (2, .index 3), (3, .index 5), (4, .index 16), (5, .index 27), (6, .index 38), (7, .index 42), (8, .index 43), (9, .int (Int32.ofInt (0))), (10, .int (Int32.ofInt (-1)))])), (1, (23, 8, [(0, .index 44), (1, .index 46), (2, .index 48), (3, .index 50), (4, .index 52), (5, .index 54), (6, .index 56), (7, .index 58)])), (2, (24, 8, [])), (3, (7, 3, [(0, .int (Int32.ofInt (-1))), (1, .int (Int32.ofInt (0))), (2, .index 4)])), (4, (21, 100, [])), (5, (3, 17, [(0, .int (Int32.ofInt (4))), (1, .int (Int32.ofInt (4))), (2, .long (Int64.ofInt (65535))), (3, .long (Int64.ofInt (4369))), (4, .long (Int64.ofInt (34952))), (5, .long (Int64.ofInt (15))), (6, .long (Int64.ofInt (61440))), (7, .int (Int32.ofInt (0))), (8, .int (Int32.ofInt (-1))), (9, .int (Int32.ofInt (-1))), (10, .int (Int32.ofInt (1))), (11, .int (Int32.ofInt (0))), (12, .index 6), (13, .index 7), (14, .index 8), (15, .index 14), (16, .index 15)])), (6, (21, 6, [(0, .long (Int64.ofInt (65535))), (1, .long (Int64.ofInt (0))), (2, .long (Int64.ofInt (0))), (3, .long (Int64.ofInt (0))), (4, .long (Int64.ofInt (0))), (5, .long (Int64.ofInt (0)))])), (7, (20, 5, [])), (8, (25, 5, [(0, .index 9), (1, .index 10), (2, .index 11), (3, .index 12), (4, .index 13)])), (9, (20, 6, [])), (10, (20, 6, [])), (11, (20, 6, [])), (12, (20, 6, [])), (13, (20, 6, [])), (14, (22, 5, [])), (15, (21, 7, [(0, .long (Int64.ofInt (0))), (1, .long (Int64.ofInt (0))), (2, .long (Int64.ofInt (0))), (3, .long (Int64.ofInt (0))), (4, .long (Int64.ofInt (0))), (5, .long (Int64.ofInt (0))), (6, .long (Int64.ofInt (65535)))]))]), (1, [(16, (3, 17, [(0, .int (Int32.ofInt (4))), (1, .int (Int32.ofInt (4))), (2, .long (Int64.ofInt (65535))), (3, .long (Int64.ofInt (4369))), (4, .long (Int64.ofInt (34952))), (5, .long (Int64.ofInt (15))), (6, .long (Int64.ofInt (61440))), (7, .int (Int32.ofInt (0))), (8, .int (Int32.ofInt (-1))), (9, .int (Int32.ofInt (-1))), (10, .int (Int32.ofInt (1))), (11, .int (Int32.ofInt (0))), (12, .index 17), (13, .index 18), (14, .index 19), (15, .index 25), (16, .index 26)])), (17, (21, 6, [(0, .long (Int64.ofInt (65535))), (1, .long (Int64.ofInt (0))), (2, .long (Int64.ofInt (0))), (3, .long (Int64.ofInt (0))), (4, .long (Int64.ofInt (0))), (5, .long (Int64.ofInt (0)))])), (18, (20, 5, [])), (19, (25, 5, [(0, .index 20), (1, .index 21), (2, .index 22), (3, .index 23), (4, .index 24)])), (20, (20, 6, [])), (21, (20, 6, [])), (22, (20, 6, [])), (23, (20, 6, [])), (24, (20, 6, [])), (25, (22, 5, [])), (26, (21, 7, [(0, .long (Int64.ofInt (0))), (1, .long (Int64.ofInt (0))), (2, .long (Int64.ofInt (0))), (3, .long (Int64.ofInt (0))), (4, .long (Int64.ofInt (0))), (5, .long (Int64.ofInt (0))), (6, .long (Int64.ofInt (65535)))])), (27, (3, 17, [(0, .int (Int32.ofInt (4))), (1, .int (Int32.ofInt (4))), (2, .long (Int64.ofInt (65535))), (3, .long (Int64.ofInt (4369))), (4, .long (Int64.ofInt (34952))), (5, .long (Int64.ofInt (15))), (6, .long (Int64.ofInt (61440))), (7, .int (Int32.ofInt (0))), (8, .int (Int32.ofInt (-1))), (9, .int (Int32.ofInt (-1))), (10, .int (Int32.ofInt (1))), (11, .int (Int32.ofInt (0))), (12, .index 28), (13, .index 29), (14, .index 30), (15, .index 36), (16, .index 37)])), (28, (21, 6, [(0, .long (Int64.ofInt (65535))), (1, .long (Int64.ofInt (0))), (2, .long (Int64.ofInt (0))), (3, .long (Int64.ofInt (0))), (4, .long (Int64.ofInt (0))), (5, .long (Int64.ofInt (0)))])), (29, (20, 5, [])), (30, (25, 5, [(0, .index 31), (1, .index 32), (2, .index 33), (3, .index 34), (4, .index 35)])), (31, (20, 6, []))]), (2, [(32, (20, 6, [])), (33, (20, 6, [])), (34, (20, 6, [])), (35, (20, 6, [])), (36, (22, 5, [])), (37, (21, 7, [(0, .long (Int64.ofInt (0))), (1, .long (Int64.ofInt (0))), (2, .long (Int64.ofInt (0))), (3, .long (Int64.ofInt (0))), (4, .long (Int64.ofInt (0))), (5, .long (Int64.ofInt (0))), (6, .long (Int64.ofInt (65535)))])), (38, (8, 10, [(0, .int (Int32.ofInt (-1))), (1, .int (Int32.ofInt (0))), (2, .long (Int64.ofInt (0))), (3, .long (Int64.ofInt (0))), (4, .int (Int32.ofInt (0))), (5, .int (Int32.ofInt (1000))), (6, .int (Int32.ofInt (0))), (7, .index 39), (8, .index 40), (9, .index 41)])), (39, (20, 644, [])), (40, (21, 644, [])), (41, (21, 7, [])), (42, (21, 7, [])), (43, (20, 8, [])), (44, (7, 3, [(0, .int (Int32.ofInt (-1))), (1, .int (Int32.ofInt (0))), (2, .index 45)])), (45, (21, 100, [])), (46, (7, 3, [(0, .int (Int32.ofInt (-1))), (1, .int (Int32.ofInt (0))), (2, .index 47)])), (47, (21, 100, []))]), (3, [(48, (7, 3, [(0, .int (Int32.ofInt (-1))), (1, .int (Int32.ofInt (0))), (2, .index 49)])), (49, (21, 100, [])), (50, (7, 3, [(0, .int (Int32.ofInt (-1))), (1, .int (Int32.ofInt (0))), (2, .index 51)])), (51, (21, 100, [])), (52, (7, 3, [(0, .int (Int32.ofInt (-1))), (1, .int (Int32.ofInt (0))), (2, .index 53)])), (53, (21, 100, [])), (54, (7, 3, [(0, .int (Int32.ofInt (-1))), (1, .int (Int32.ofInt (0))), (2, .index 55)])), (55, (21, 100, [])), (56, (7, 3, [(0, .int (Int32.ofInt (-1))), (1, .int (Int32.ofInt (0))), (2, .index 57)])), (57, (21, 100, [])), (58, (7, 3, [(0, .int (Int32.ofInt (-1))), (1, .int (Int32.ofInt (0))), (2, .index 59)])), (59, (21, 100, [])), (60, (12, 38, [(0, .int (Int32.ofInt (4))), (1, .int (Int32.ofInt (4))), (3, .int (Int32.ofInt (-1))), (4, .int (Int32.ofInt (-1))), (5, .int (Int32.ofInt (1))), (7, .int (Int32.ofInt (-1))), (8, .index 61), (9, .index 62), (10, .index 63), (11, .index 64), (12, .index 65), (13, .index 66), (14, .index 67), (15, .index 68), (16, .index 69), (17, .index 70), (18, .index 71), (19, .index 72), (20, .index 73), (26, .index 74), (27, .index 75), (29, .index 76), (30, .index 77), (35, .index 78)])), (61, (20, 8, [])), (62, (20, 64, [])), (63, (20, 64, [(0, .int (Int32.ofInt (-1))), (1, .int (Int32.ofInt (-1))), (2, .int (Int32.ofInt (-1))), (3, .int (Int32.ofInt (-1))), (4, .int (Int32.ofInt (-1))), (5, .int (Int32.ofInt (-1))), (6, .int (Int32.ofInt (-1))), (7, .int (Int32.ofInt (-1))), (8, .int (Int32.ofInt (-1))), (9, .int (Int32.ofInt (-1))), (10, .int (Int32.ofInt (-1))), (11, .int (Int32.ofInt (-1))), (12, .int (Int32.ofInt (-1))), (13, .int (Int32.ofInt (-1))), (14, .int (Int32.ofInt (-1))), (15, .int (Int32.ofInt (-1))), (16, .int (Int32.ofInt (-1))), (17, .int (Int32.ofInt (-1))), (18, .int (Int32.ofInt (-1))), (19, .int (Int32.ofInt (-1))), (20, .int (Int32.ofInt (-1))), (21, .int (Int32.ofInt (-1))), (22, .int (Int32.ofInt (-1))), (23, .int (Int32.ofInt (-1))), (24, .int (Int32.ofInt (-1))), (25, .int (Int32.ofInt (-1))), (26, .int (Int32.ofInt (-1))), (27, .int (Int32.ofInt (-1))), (28, .int (Int32.ofInt (-1))), (29, .int (Int32.ofInt (-1))), (30, .int (Int32.ofInt (-1))), (31, .int (Int32.ofInt (-1))), (32, .int (Int32.ofInt (-1))), (33, .int (Int32.ofInt (-1))), (34, .int (Int32.ofInt (-1))), (35, .int (Int32.ofInt (-1))), (36, .int (Int32.ofInt (-1))), (37, .int (Int32.ofInt (-1))), (38, .int (Int32.ofInt (-1))), (39, .int (Int32.ofInt (-1))), (40, .int (Int32.ofInt (-1))), (41, .int (Int32.ofInt (-1))), (42, .int (Int32.ofInt (-1))), (43, .int (Int32.ofInt (-1))), (44, .int (Int32.ofInt (-1))), (45, .int (Int32.ofInt (-1))), (46, .int (Int32.ofInt (-1))), (47, .int (Int32.ofInt (-1))), (48, .int (Int32.ofInt (-1))), (49, .int (Int32.ofInt (-1))), (50, .int (Int32.ofInt (-1))), (51, .int (Int32.ofInt (-1))), (52, .int (Int32.ofInt (-1))), (53, .int (Int32.ofInt (-1))), (54, .int (Int32.ofInt (-1))), (55, .int (Int32.ofInt (-1))), (56, .int (Int32.ofInt (-1))), (57, .int (Int32.ofInt (-1))), (58, .int (Int32.ofInt (-1))), (59, .int (Int32.ofInt (-1))), (60, .int (Int32.ofInt (-1))), (61, .int (Int32.ofInt (-1))), (62, .int (Int32.ofInt (-1))), (63, .int (Int32.ofInt (-1)))]))]), (4, [(64, (20, 5, [])), (65, (20, 5, [])), (66, (20, 30, [])), (67, (20, 8, [])), (68, (20, 8, [])), (69, (20, 8, [])), (70, (20, 8, [])), (71, (21, 800, [])), (72, (21, 100, [])), (73, (20, 42, [(0, .int (Int32.ofInt (115))), (1, .int (Int32.ofInt (105))), (2, .int (Int32.ofInt (122))), (3, .int (Int32.ofInt (101))), (4, .int (Int32.ofInt (32))), (5, .int (Int32.ofInt (0))), (6, .int (Int32.ofInt (115))), (7, .int (Int32.ofInt (111))), (8, .int (Int32.ofInt (105))), (9, .int (Int32.ofInt (108))), (10, .int (Int32.ofInt (32))), (11, .int (Int32.ofInt (0))), (12, .int (Int32.ofInt (114))), (13, .int (Int32.ofInt (111))), (14, .int (Int32.ofInt (97))), (15, .int (Int32.ofInt (100))), (16, .int (Int32.ofInt (32))), (17, .int (Int32.ofInt (0))), (18, .int (Int32.ofInt (119))), (19, .int (Int32.ofInt (101))), (20, .int (Int32.ofInt (108))), (21, .int (Int32.ofInt (108))), (22, .int (Int32.ofInt (32))), (23, .int (Int32.ofInt (0))), (24, .int (Int32.ofInt (111))), (25, .int (Int32.ofInt (97))), (26, .int (Int32.ofInt (107))), (27, .int (Int32.ofInt (32))), (28, .int (Int32.ofInt (0))), (29, .int (Int32.ofInt (115))), (30, .int (Int32.ofInt (109))), (31, .int (Int32.ofInt (97))), (32, .int (Int32.ofInt (108))), (33, .int (Int32.ofInt (108))), (34, .int (Int32.ofInt (32))), (35, .int (Int32.ofInt (0))), (36, .int (Int32.ofInt (104))), (37, .int (Int32.ofInt (101))), (38, .int (Int32.ofInt (105))), (39, .int (Int32.ofInt (114))), (40, .int (Int32.ofInt (32))), (41, .int (Int32.ofInt (0)))])), (74, (20, 180, [])), (75, (20, 180, [])), (76, (20, 1000, [])), (77, (20, 64, [])), (78, (20, 20, []))])])
def aL0 : aLo := [some (.index 1000000), some (.index 0), some (.index 60), some (.int 0)]
/-! ===== the cells that the constructors leave: they hold what stays true ===== -/
def hTy (t : tM) (ty : bTy) : Bool := match ty with
  | .inl (lo, hi) => (match t with
    | .int v => decide (lo ≤ v.toInt) && decide (v.toInt ≤ hi)
    | _ => false)
  | .inr (0, _) => (match t with
    | .long _ => true
    | _ => false)
  | .inr (1, _) => (match t with
    | .null => true
    | _ => false)
  | .inr (2, K) => (match t with
    | .index p => (match aNth bKl p with
      | some K' => Nat.beq K' K
      | none => false)
    | _ => false)
  | .inr (_, K) => (match t with
    | .null => true
    | .index p => (match aNth bKl p with
      | some K' => Nat.beq K' K
      | none => false)
    | _ => false)
theorem hIn {h : sHp} (hl : 79 ≤ h.length) {p K : Nat} (g : (match aNth bKl p with
      | some K' => Nat.beq K' K
      | none => false) = true) : bIn h K p := by
  split at g
  · rename_i K' e
    rw [aNth_eq] at e
    have hp : p < 79 := (List.getElem?_eq_some_iff.mp e).1
    refine Or.inl ⟨_, List.getElem?_eq_getElem (show p < h.length by omega), ?_⟩
    unfold bKp
    rw [e]
    unfold bKK
    rw [g]; rfl
  · cases g
theorem hTy_ok {ι : aIn} {h : sHp} (hl : 79 ≤ h.length) {t : tM} {ty : bTy} (g : hTy t ty = true) : bT h ty (eT ι t) := by
  unfold hTy at g
  split at g
  · split at g
    · obtain ⟨g1, g2⟩ := aBa g
      exact ⟨_, rfl, of_decide_eq_true g1, of_decide_eq_true g2⟩
    · cases g
  · split at g
    · exact ⟨_, rfl⟩
    · cases g
  · split at g
    · rfl
    · cases g
  · split at g
    · exact ⟨_, rfl, hIn hl g⟩
    · cases g
  · rename_i k K n0 n1 n2
    have key : eT ι t = .null ∨ ∃ p, eT ι t = .ref p ∧ bIn h K p := by
      split at g
      · exact Or.inl rfl
      · exact Or.inr ⟨_, rfl, hIn hl g⟩
      · cases g
    unfold bT
    match k, n0, n1, n2 with
    | 0, n0, _, _ => exact (n0 rfl).elim
    | 1, _, n1, _ => exact (n1 rfl).elim
    | 2, _, _, n2 => exact (n2 rfl).elim
    | k + 3, _, _, _ => exact key
def hEl (c : aC) (ty : bTy) : Bool := hTy (aAd c.1) ty && c.2.2.all (fun e => hTy e.2 ty)
theorem hEl_ok {c : aC} {ty : bTy} (g : hEl c ty = true) (i : Nat) : hTy (aGt (aAd c.1) i c.2.2) ty = true := by
  obtain ⟨g1, g2⟩ := aBa g
  rcases aGt_mem (aAd c.1) i c.2.2 with e | ⟨e, he, e1⟩
  · rw [e]; exact g1
  · rw [e1]; exact List.all_eq_true.mp g2 e he
def hCk (c : aC) (ct : bCt) : Bool := match ct with
  | .inl (tag, n, ty, cs) => (Nat.beq c.1 (20 + tag) && Nat.beq c.2.1 n) && ((match ty with
    | .inr (k + 1, _) => (List.range c.2.1).all (fun i => hTy (aGt (aAd c.1) i c.2.2) ty)
    | _ => hEl c ty) && ((match ty with
    | .inl _ => Nat.beq tag 0 || Nat.beq tag 2
    | .inr (0, _) => Nat.beq tag 1
    | .inr _ => Nat.blt 2 tag && Nat.blt tag 6) && (List.range cs.length).all (fun i => match aGt (aAd c.1) i c.2.2, cs[i]? with
      | .int v, some z => decide (v.toInt = z)
      | _, _ => false)))
  | .inr (ci, tys) => (Nat.beq c.1 ci && (Nat.blt ci 20 && Nat.beq c.2.1 tys.length)) && (List.range tys.length).all (fun i => match tys[i]? with
    | some ty => hTy (aGt (aTd (sTy ci i)) i c.2.2) ty
    | none => false)
theorem hCk_ok {ι : aIn} {h : sHp} (hl : 79 ≤ h.length) {c : aC} {ct : bCt} (g : hCk c ct = true) : bCm h ct (eC ι c) := by
  obtain ⟨k, n, l⟩ := c
  unfold hCk at g
  split at g
  · rename_i tag n' ty cs
    obtain ⟨g1, g⟩ := aBa g
    obtain ⟨g1, g2⟩ := aBa g1
    obtain ⟨g3, g⟩ := aBa g
    obtain ⟨g4, g5⟩ := aBa g
    have e1 : k = 20 + tag := aBt g1
    have e2 : n = n' := aBt g2
    subst e1 e2
    rcases ty with ⟨lo, hi⟩ | ⟨kk, K⟩
    · have hel := hEl_ok (c := (20 + tag, n, l)) (ty := .inl (lo, hi)) g3
      rw [Bool.or_eq_true] at g4
      have ht : 20 + tag = 20 ∨ 20 + tag = 22 := by
        rcases g4 with z | z
        · left; rw [aBt z]
        · right; rw [aBt z]
      rw [eC_i ι (c := (20 + tag, n, l)) ht]
      refine ⟨_, by rw [show (20 + tag, n, l).1 - 20 = tag from Nat.add_sub_cancel_left ..], fun i _ => ?_, fun i z hz => ?_⟩
      · obtain ⟨x, e, x1, x2⟩ := hTy_ok (ι := ι) hl (hel i)
        show lo ≤ (vI (eT ι (aGt (aAd (20 + tag)) i l))).toInt ∧ _
        have e' : eT ι (aGt (aAd (20 + tag)) i l) = .int x := e
        rw [e']
        exact ⟨x1, x2⟩
      · have hi := (List.getElem?_eq_some_iff.mp hz).1
        have g6 := List.all_eq_true.mp g5 i (List.mem_range.mpr hi)
        rw [hz] at g6
        split at g6
        · rename_i v z' e3 e4
          cases e4
          show (vI (eT ι (aGt (aAd (20 + tag)) i l))).toInt = z
          have e5 : aGt (aAd (20 + tag)) i l = .int v := e3
          rw [e5]
          exact of_decide_eq_true g6
        · cases g6
    · cases kk with
      | zero =>
        have et : tag = 1 := aBt g4
        subst et
        rw [eC_l ι (c := (20 + 1, n, l)) rfl]
        exact ⟨_, rfl⟩
      | succ kk =>
        obtain ⟨t1, t2⟩ := aBa g4
        have t1 := aBl t1
        have t2 := aBl t2
        rw [eC_r ι (c := (20 + tag, n, l)) ⟨by show 23 ≤ 20 + tag; omega, by show 20 + tag ≤ 25; omega⟩]
        refine ⟨_, by rw [show (20 + tag, n, l).1 - 20 = tag from Nat.add_sub_cancel_left ..], fun i hin => ?_⟩
        have hx := hTy_ok (ι := ι) hl (List.all_eq_true.mp g3 i (List.mem_range.mpr hin))
        have key : va_rf (vR (eT ι (aGt (aAd (20 + tag)) i l))) = eT ι (aGt (aAd (20 + tag)) i l) := by
          have hx' : bT h (.inr (kk + 1, K)) (eT ι (aGt (aAd (20 + tag)) i l)) := hx
          generalize eT ι (aGt (aAd (20 + tag)) i l) = v at hx'
          match kk, hx' with
          | 0, e => have e : v = .null := e; rw [e]; rfl
          | 1, e => obtain ⟨p, e, -⟩ := e; rw [e]; rfl
          | kk + 2, e =>
            have e : v = .null ∨ ∃ p, v = .ref p ∧ bIn h K p := e
            rcases e with e | ⟨p, e, -⟩ <;> rw [e] <;> rfl
        show bT h (.inr (kk + 1, K)) (va_rf (vR (eT ι (aGt (aAd (20 + tag)) i l))))
        rw [key]
        exact hx
  · rename_i ci tys
    obtain ⟨ga, g⟩ := aBa g
    obtain ⟨gb, gc⟩ := aBa ga
    obtain ⟨gd, ge⟩ := aBa gc
    have e1 : k = ci := aBt gb
    have e3 : n = tys.length := aBt ge
    subst e1 e3
    rw [eC_o ι (c := (k, tys.length, l)) (aBl gd)]
    refine ⟨_, rfl, by rw [List.length_map, List.length_range], fun j ty hj => ?_⟩
    have hlt := (List.getElem?_eq_some_iff.mp hj).1
    have g4 := List.all_eq_true.mp g j (List.mem_range.mpr hlt)
    rw [hj] at g4
    refine ⟨_, ?_, hTy_ok (ι := ι) hl g4⟩
    rw [List.getElem?_map, List.getElem?_range hlt]; rfl
theorem hAll : ((List.range 79).all fun p => match aNth bKl p with
    | some K => (match bGam K with
      | some ct => hCk (aCe aH0 p) ct
      | none => false)
    | none => false) = true := by decide +kernel
theorem hP0 (ι : aIn) : bP (eH ι aH0) := by
  refine ⟨_, _, _, by rw [eH_at ι (show 60 < aH0.1 by decide), eC_o ι (show (aCe aH0 60).1 < 20 by decide +kernel)]; rfl, by rw [eH_at ι (show 64 < aH0.1 by decide), eC_i ι (show (aCe aH0 64).1 = 20 ∨ (aCe aH0 64).1 = 22 by decide +kernel)]; rfl, by rw [eH_at ι (show 75 < aH0.1 by decide), eC_i ι (show (aCe aH0 75).1 = 20 ∨ (aCe aH0 75).1 = 22 by decide +kernel)]; rfl, fun z => ?_, fun z => ?_⟩
  · exact absurd z (show ¬ (1 : Int) ≤ 0 by decide)
  · exact absurd (show (0 : Int) = 0 from rfl) z
theorem bH_0 (ι : aIn) : bH (eH ι aH0) := by
  have hl : (eH ι aH0).length = 79 := eH_len ι aH0
  refine ⟨by omega, fun p c hc => ?_, hP0 ι⟩
  have hp : p < 79 := by
    have := (List.getElem?_eq_some_iff.mp hc).1
    omega
  rw [eH_at ι (show p < aH0.1 from hp)] at hc
  cases hc
  have g := List.all_eq_true.mp hAll p (List.mem_range.mpr hp)
  split at g
  · rename_i K e
    rw [aNth_eq] at e
    split at g
    · rename_i ct e2
      refine ⟨ct, ?_, hCk_ok (by omega) g⟩
      unfold bKp
      rw [e]
      exact e2
    · cases g
  · cases g
