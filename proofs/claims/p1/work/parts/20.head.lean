/-! ===== states compared ===== -/
theorem aGt_not {α : Type} (d : α) (i : Nat) : ∀ l : List (Nat × α), (∀ e ∈ l, e.1 ≠ i) → aGt d i l = d := by
  intro l
  induction l with
  | nil => intro _; rfl
  | cons e r ih =>
    intro h
    unfold aGt
    rw [aBq, decide_eq_false (h e List.mem_cons_self)]
    exact ih (fun e' he => h e' (List.mem_cons_of_mem _ he))
theorem aGt_mem {α : Type} (d : α) (i : Nat) : ∀ l : List (Nat × α), aGt d i l = d ∨ ∃ e ∈ l, aGt d i l = e.2 := by
  intro l
  induction l with
  | nil => exact Or.inl rfl
  | cons e r ih =>
    unfold aGt
    cases Nat.beq e.1 i with
    | true => exact Or.inr ⟨e, List.mem_cons_self, rfl⟩
    | false =>
      rcases ih with h | ⟨e', he, h⟩
      · exact Or.inl h
      · exact Or.inr ⟨e', List.mem_cons_of_mem _ he, h⟩
def aLEq (d : Nat → tM) (l1 l2 : List (Nat × tM)) : Bool := l1.all (fun e => tBq 24 (aGt (d e.1) e.1 l1) (aGt (d e.1) e.1 l2)) && l2.all (fun e => tBq 24 (aGt (d e.1) e.1 l1) (aGt (d e.1) e.1 l2))
theorem aLEq_ok {d : Nat → tM} {l1 l2 : List (Nat × tM)} (h : aLEq d l1 l2 = true) (i : Nat) : aGt (d i) i l1 = aGt (d i) i l2 := by
  obtain ⟨h1, h2⟩ := aBa h
  by_cases a : ∃ e ∈ l1, e.1 = i
  · obtain ⟨e, he, rfl⟩ := a
    exact tBq_eq _ _ _ (List.all_eq_true.mp h1 e he)
  · by_cases b : ∃ e ∈ l2, e.1 = i
    · obtain ⟨e, he, rfl⟩ := b
      exact tBq_eq _ _ _ (List.all_eq_true.mp h2 e he)
    · rw [aGt_not _ _ _ (fun e he q => a ⟨e, he, q⟩), aGt_not _ _ _ (fun e he q => b ⟨e, he, q⟩)]
def aDc (c : Nat) (i : Nat) : tM := bif Nat.blt c 20 then aTd (sTy c i) else aAd c
def aCEq (x y : aC) : Bool := match x with
  | (c, n, l) => (match y with
    | (c', n', l') => Nat.beq c c' && (Nat.beq n n' && aLEq (aDc c) l l'))
theorem aCEq_ok (ι : aIn) {x y : aC} (h : aCEq x y = true) : eC ι x = eC ι y := by
  obtain ⟨c, n, l⟩ := x
  obtain ⟨c', n', l'⟩ := y
  obtain ⟨h1, h⟩ := aBa h
  obtain ⟨h2, h3⟩ := aBa h
  cases aBt h1
  cases aBt h2
  have h4 := aLEq_ok h3
  by_cases hc : c < 20
  · rw [eC_o ι (c := (c, n, l)) hc, eC_o ι (c := (c, n, l')) hc]
    have e : ∀ i, aDc c i = aTd (sTy c i) := fun i => by
      unfold aDc
      rw [show Nat.blt c 20 = true from Nat.ble_eq_true_of_le hc]; rfl
    congr 2
    refine List.map_congr_left (fun i _ => ?_)
    have := h4 i
    rw [e] at this
    exact congrArg (eT ι) this
  · have e : ∀ i, aDc c i = aAd c := fun i => by
      unfold aDc
      cases hb : Nat.blt c 20 with
      | true => exact absurd (aBl hb) hc
      | false => rfl
    have h5 : ∀ i, aGt (aAd c) i l = aGt (aAd c) i l' := fun i => by
      have := h4 i
      rw [e] at this
      exact this
    unfold eC
    simp only [h5]
    rw [if_neg hc, if_neg hc]
def aHq (h1 h2 : aHp) : Bool := Nat.beq h1.1 h2.1 && (List.range h1.1).all (fun a => aCEq (aCe h1 a) (aCe h2 a))
theorem aHq_ok (ι : aIn) {h1 h2 : aHp} (h : aHq h1 h2 = true) : eH ι h1 = eH ι h2 := by
  obtain ⟨a, b⟩ := aBa h
  unfold eH
  rw [← aBt a]
  refine List.map_congr_left (fun i hi => ?_)
  exact aCEq_ok ι (List.all_eq_true.mp b i hi)
def aOq : Option tM → Option tM → Bool
  | none, none => true
  | some a, some b => tBq 40 a b
  | _, _ => false
def aLq : aLo → aLo → Bool
  | [], [] => true
  | a :: r, b :: s => aOq a b && aLq r s
  | _, _ => false
def aSq : List tM → List tM → Bool
  | [], [] => true
  | a :: r, b :: s => tBq 40 a b && aSq r s
  | _, _ => false
theorem aOq_ok {a b : Option tM} (h : aOq a b = true) : a = b := by
  cases a with
  | none =>
    cases b with
    | none => rfl
    | some b => cases h
  | some a =>
    cases b with
    | none => cases h
    | some b => rw [tBq_eq _ _ _ h]
theorem aLq_ok : ∀ {a b : aLo}, aLq a b = true → a = b := by
  intro a
  induction a with
  | nil =>
    intro b h
    cases b with
    | nil => rfl
    | cons _ _ => cases h
  | cons x r ih =>
    intro b h
    cases b with
    | nil => cases h
    | cons y s =>
      obtain ⟨h1, h2⟩ := aBa h
      rw [aOq_ok h1, ih h2]
theorem aSq_ok : ∀ {a b : List tM}, aSq a b = true → a = b := by
  intro a
  induction a with
  | nil =>
    intro b h
    cases b with
    | nil => rfl
    | cons _ _ => cases h
  | cons x r ih =>
    intro b h
    cases b with
    | nil => cases h
    | cons y s =>
      obtain ⟨h1, h2⟩ := aBa h
      rw [tBq_eq _ _ _ h1, ih h2]
def aGq (G G' : aG) : Bool := G'.all (fun e => decide (e.2.1 ≤ (aIv 6 G e.1).1) && decide ((aIv 6 G e.1).2 ≤ e.2.2))
theorem aGq_ok {ι : aIn} {G G' : aG} (h : aGq G G' = true) (hG : aOk ι G) : aOk ι G' := by
  intro e he
  obtain ⟨h1, h2⟩ := aBa (List.all_eq_true.mp h e he)
  have h1 := of_decide_eq_true h1
  have h2 := of_decide_eq_true h2
  have h0 := aIv_ok hG 6 e.1
  unfold aW at h0
  omega
abbrev aTp5 : Type := Nat × aLo × List tM × aHp × aG
def aTq (x : aTp5) (pc : Nat) (L : aLo) (st : List tM) (h : aHp) (G : aG) : Bool := Nat.beq pc x.1 && (aLq L x.2.1 && (aSq st x.2.2.1 && (aGq G x.2.2.2.2 && aHq h x.2.2.2.1)))
def aPr (ι : aIn) (X : sX) (k0 d0 : Nat) (Q : Option Value → sHp → Prop) (x : aTp5) : Prop := sGo X k0 d0 x.1 (eL ι x.2.1) (eS ι x.2.2.1) (eH ι x.2.2.2.1) Q
theorem aTq_ok {ι : aIn} {X : sX} {k0 d0 : Nat} {Q : Option Value → sHp → Prop} {x : aTp5} {pc : Nat} {L : aLo} {st : List tM} {h : aHp} {G : aG} (g : aTq x pc L st h G = true) (hG : aOk ι G) (k : aOk ι x.2.2.2.2 → aPr ι X k0 d0 Q x) : sGo X k0 d0 pc (eL ι L) (eS ι st) (eH ι h) Q := by
  obtain ⟨g1, g⟩ := aBa g
  obtain ⟨g2, g⟩ := aBa g
  obtain ⟨g3, g⟩ := aBa g
  obtain ⟨g4, g5⟩ := aBa g
  have k1 := k (aGq_ok g4 hG)
  unfold aPr at k1
  rw [aBt g1, aLq_ok g2, aSq_ok g3, aHq_ok ι g5]
  exact k1
/-! sizes at the end -/
def aZok (ι : aIn) : Prop := ∀ n, sSz (ι.2.2 n) ≤ 5000
def aBig (h : aHp) : Bool := h.2.all (fun b => b.2.all (fun e => Nat.ble e.2.2.1 5000))
theorem sSl_le : ∀ l : sHp, (∀ c ∈ l, sSz c ≤ 5000) → sSl l ≤ 5000 * l.length := by
  intro l
  induction l with
  | nil => intro _; exact Nat.zero_le _
  | cons c t ih =>
    intro h
    have h1 := h c List.mem_cons_self
    have h2 := ih (fun c' hc => h c' (List.mem_cons_of_mem _ hc))
    show sSz c + sSl t ≤ 5000 * (t.length + 1)
    omega
theorem eC_sz {ι : aIn} (hz : aZok ι) {c : aC} (h : c.2.1 ≤ 5000) : sSz (eC ι c) ≤ 5000 := by
  unfold eC
  split
  · show (List.map _ _).length ≤ 5000
    rw [List.length_map, List.length_range]
    exact h
  · split
    · exact h
    · split
      · exact h
      · split
        · exact h
        · exact hz _
theorem aBig_ok {ι : aIn} (hz : aZok ι) {h : aHp} (g : aBig h = true) : sSl (eH ι h) ≤ 5000 * h.1 := by
  have h1 : ∀ a, (aCe h a).2.1 ≤ 5000 := by
    intro a
    unfold aCe
    rcases aGt_mem aNo a (aGt [] (a / 16) h.2) with e | ⟨e, he, e1⟩
    · rw [e]; exact Nat.zero_le _
    · rw [e1]
      rcases aGt_mem [] (a / 16) h.2 with e2 | ⟨b, hb, e2⟩
      · rw [e2] at he; cases he
      · rw [e2] at he
        exact Nat.le_of_ble_eq_true (List.all_eq_true.mp (List.all_eq_true.mp g b hb) e he)
  have h2 := sSl_le (eH ι h) (fun c hc => by
    obtain ⟨a, -, rfl⟩ := List.mem_map.mp hc
    exact eC_sz hz (h1 a))
  rw [eH_len] at h2
  exact h2
def aK0 : aKt := fun t h _ => match t with
  | some t => (match t with
    | .int x => decide (x.toInt = 1) && (Nat.ble h.1 1000 && aBig h)
    | _ => false)
  | none => false
def aEnd (r : Option Value) (h : sHp) : Prop := r = some (.int 1) ∧ h.length ≤ 600000 ∧ sSl h ≤ 7302250
theorem aK0_ok {ι : aIn} (hz : aZok ι) {r : Option Value} {h : sHp} (g : aQ ι aK0 r h) : aEnd r h := by
  obtain ⟨t, hf, Gf, g1, -, rfl, rfl⟩ := g
  unfold aK0 at g1
  split at g1
  · split at g1
    · rename_i x
      obtain ⟨a, b⟩ := aBa g1
      obtain ⟨b1, b2⟩ := aBa b
      have a := of_decide_eq_true a
      have e : x = 1 := Int32.toInt_inj.mp a
      have b3 := Nat.le_of_ble_eq_true b1
      have b4 := aBig_ok hz b2
      refine ⟨by rw [e]; rfl, ?_, ?_⟩
      · rw [eH_len]; omega
      · omega
    · cases g1
  · cases g1
/-! ===== the state at the law's switch ===== -/
def aH0 : aHp := (79, [(0, [(0, (11, 11, [(0, .index 1), (1, .index 2), (2, .index 3), (3, .index 5), (4, .index 16), (5, .index 27), (6, .index 38), (7, .index 42), (8, .index 43), (9, .int (Int32.ofInt (0))), (10, .int (Int32.ofInt (-1)))])), (1, (23, 8, [(0, .index 44), (1, .index 46), (2, .index 48), (3, .index 50), (4, .index 52), (5, .index 54), (6, .index 56), (7, .index 58)])), (2, (24, 8, [])), (3, (7, 3, [(0, .int (Int32.ofInt (-1))), (1, .int (Int32.ofInt (0))), (2, .index 4)])), (4, (21, 100, [])), (5, (3, 17, [(0, .int (Int32.ofInt (4))), (1, .int (Int32.ofInt (4))), (2, .long (Int64.ofInt (65535))), (3, .long (Int64.ofInt (4369))), (4, .long (Int64.ofInt (34952))), (5, .long (Int64.ofInt (15))), (6, .long (Int64.ofInt (61440))), (7, .int (Int32.ofInt (0))), (8, .int (Int32.ofInt (-1))), (9, .int (Int32.ofInt (-1))), (10, .int (Int32.ofInt (1))), (11, .int (Int32.ofInt (0))), (12, .index 6), (13, .index 7), (14, .index 8), (15, .index 14), (16, .index 15)])), (6, (21, 6, [(0, .long (Int64.ofInt (65535))), (1, .long (Int64.ofInt (0))), (2, .long (Int64.ofInt (0))), (3, .long (Int64.ofInt (0))), (4, .long (Int64.ofInt (0))), (5, .long (Int64.ofInt (0)))])), (7, (20, 5, [])), (8, (25, 5, [(0, .index 9), (1, .index 10), (2, .index 11), (3, .index 12), (4, .index 13)])), (9, (20, 6, [])), (10, (20, 6, [])), (11, (20, 6, [])), (12, (20, 6, [])), (13, (20, 6, [])), (14, (22, 5, [])), (15, (21, 7, [(0, .long (Int64.ofInt (0))), (1, .long (Int64.ofInt (0))), (2, .long (Int64.ofInt (0))), (3, .long (Int64.ofInt (0))), (4, .long (Int64.ofInt (0))), (5, .long (Int64.ofInt (0))), (6, .long (Int64.ofInt (65535)))]))]), (1, [(16, (3, 17, [(0, .int (Int32.ofInt (4))), (1, .int (Int32.ofInt (4))), (2, .long (Int64.ofInt (65535))), (3, .long (Int64.ofInt (4369))), (4, .long (Int64.ofInt (34952))), (5, .long (Int64.ofInt (15))), (6, .long (Int64.ofInt (61440))), (7, .int (Int32.ofInt (0))), (8, .int (Int32.ofInt (-1))), (9, .int (Int32.ofInt (-1))), (10, .int (Int32.ofInt (1))), (11, .int (Int32.ofInt (0))), (12, .index 17), (13, .index 18), (14, .index 19), (15, .index 25), (16, .index 26)])), (17, (21, 6, [(0, .long (Int64.ofInt (65535))), (1, .long (Int64.ofInt (0))), (2, .long (Int64.ofInt (0))), (3, .long (Int64.ofInt (0))), (4, .long (Int64.ofInt (0))), (5, .long (Int64.ofInt (0)))])), (18, (20, 5, [])), (19, (25, 5, [(0, .index 20), (1, .index 21), (2, .index 22), (3, .index 23), (4, .index 24)])), (20, (20, 6, [])), (21, (20, 6, [])), (22, (20, 6, [])), (23, (20, 6, [])), (24, (20, 6, [])), (25, (22, 5, [])), (26, (21, 7, [(0, .long (Int64.ofInt (0))), (1, .long (Int64.ofInt (0))), (2, .long (Int64.ofInt (0))), (3, .long (Int64.ofInt (0))), (4, .long (Int64.ofInt (0))), (5, .long (Int64.ofInt (0))), (6, .long (Int64.ofInt (65535)))])), (27, (3, 17, [(0, .int (Int32.ofInt (4))), (1, .int (Int32.ofInt (4))), (2, .long (Int64.ofInt (65535))), (3, .long (Int64.ofInt (4369))), (4, .long (Int64.ofInt (34952))), (5, .long (Int64.ofInt (15))), (6, .long (Int64.ofInt (61440))), (7, .int (Int32.ofInt (0))), (8, .int (Int32.ofInt (-1))), (9, .int (Int32.ofInt (-1))), (10, .int (Int32.ofInt (1))), (11, .int (Int32.ofInt (0))), (12, .index 28), (13, .index 29), (14, .index 30), (15, .index 36), (16, .index 37)])), (28, (21, 6, [(0, .long (Int64.ofInt (65535))), (1, .long (Int64.ofInt (0))), (2, .long (Int64.ofInt (0))), (3, .long (Int64.ofInt (0))), (4, .long (Int64.ofInt (0))), (5, .long (Int64.ofInt (0)))])), (29, (20, 5, [])), (30, (25, 5, [(0, .index 31), (1, .index 32), (2, .index 33), (3, .index 34), (4, .index 35)])), (31, (20, 6, []))]), (2, [(32, (20, 6, [])), (33, (20, 6, [])), (34, (20, 6, [])), (35, (20, 6, [])), (36, (22, 5, [])), (37, (21, 7, [(0, .long (Int64.ofInt (0))), (1, .long (Int64.ofInt (0))), (2, .long (Int64.ofInt (0))), (3, .long (Int64.ofInt (0))), (4, .long (Int64.ofInt (0))), (5, .long (Int64.ofInt (0))), (6, .long (Int64.ofInt (65535)))])), (38, (8, 10, [(0, .int (Int32.ofInt (-1))), (1, .int (Int32.ofInt (0))), (2, .long (Int64.ofInt (0))), (3, .long (Int64.ofInt (0))), (4, .int (Int32.ofInt (0))), (5, .int (Int32.ofInt (1000))), (6, .int (Int32.ofInt (0))), (7, .index 39), (8, .index 40), (9, .index 41)])), (39, (20, 644, [])), (40, (21, 644, [])), (41, (21, 7, [])), (42, (21, 7, [])), (43, (20, 8, [])), (44, (7, 3, [(0, .int (Int32.ofInt (-1))), (1, .int (Int32.ofInt (0))), (2, .index 45)])), (45, (21, 100, [])), (46, (7, 3, [(0, .int (Int32.ofInt (-1))), (1, .int (Int32.ofInt (0))), (2, .index 47)])), (47, (21, 100, []))]), (3, [(48, (7, 3, [(0, .int (Int32.ofInt (-1))), (1, .int (Int32.ofInt (0))), (2, .index 49)])), (49, (21, 100, [])), (50, (7, 3, [(0, .int (Int32.ofInt (-1))), (1, .int (Int32.ofInt (0))), (2, .index 51)])), (51, (21, 100, [])), (52, (7, 3, [(0, .int (Int32.ofInt (-1))), (1, .int (Int32.ofInt (0))), (2, .index 53)])), (53, (21, 100, [])), (54, (7, 3, [(0, .int (Int32.ofInt (-1))), (1, .int (Int32.ofInt (0))), (2, .index 55)])), (55, (21, 100, [])), (56, (7, 3, [(0, .int (Int32.ofInt (-1))), (1, .int (Int32.ofInt (0))), (2, .index 57)])), (57, (21, 100, [])), (58, (7, 3, [(0, .int (Int32.ofInt (-1))), (1, .int (Int32.ofInt (0))), (2, .index 59)])), (59, (21, 100, [])), (60, (12, 38, [(0, .int (Int32.ofInt (4))), (1, .int (Int32.ofInt (4))), (3, .int (Int32.ofInt (-1))), (4, .int (Int32.ofInt (-1))), (5, .int (Int32.ofInt (1))), (7, .int (Int32.ofInt (-1))), (8, .index 61), (9, .index 62), (10, .index 63), (11, .index 64), (12, .index 65), (13, .index 66), (14, .index 67), (15, .index 68), (16, .index 69), (17, .index 70), (18, .index 71), (19, .index 72), (20, .index 73), (26, .index 74), (27, .index 75), (29, .index 76), (30, .index 77), (35, .index 78)])), (61, (20, 8, [])), (62, (20, 64, [])), (63, (20, 64, [(0, .int (Int32.ofInt (-1))), (1, .int (Int32.ofInt (-1))), (2, .int (Int32.ofInt (-1))), (3, .int (Int32.ofInt (-1))), (4, .int (Int32.ofInt (-1))), (5, .int (Int32.ofInt (-1))), (6, .int (Int32.ofInt (-1))), (7, .int (Int32.ofInt (-1))), (8, .int (Int32.ofInt (-1))), (9, .int (Int32.ofInt (-1))), (10, .int (Int32.ofInt (-1))), (11, .int (Int32.ofInt (-1))), (12, .int (Int32.ofInt (-1))), (13, .int (Int32.ofInt (-1))), (14, .int (Int32.ofInt (-1))), (15, .int (Int32.ofInt (-1))), (16, .int (Int32.ofInt (-1))), (17, .int (Int32.ofInt (-1))), (18, .int (Int32.ofInt (-1))), (19, .int (Int32.ofInt (-1))), (20, .int (Int32.ofInt (-1))), (21, .int (Int32.ofInt (-1))), (22, .int (Int32.ofInt (-1))), (23, .int (Int32.ofInt (-1))), (24, .int (Int32.ofInt (-1))), (25, .int (Int32.ofInt (-1))), (26, .int (Int32.ofInt (-1))), (27, .int (Int32.ofInt (-1))), (28, .int (Int32.ofInt (-1))), (29, .int (Int32.ofInt (-1))), (30, .int (Int32.ofInt (-1))), (31, .int (Int32.ofInt (-1))), (32, .int (Int32.ofInt (-1))), (33, .int (Int32.ofInt (-1))), (34, .int (Int32.ofInt (-1))), (35, .int (Int32.ofInt (-1))), (36, .int (Int32.ofInt (-1))), (37, .int (Int32.ofInt (-1))), (38, .int (Int32.ofInt (-1))), (39, .int (Int32.ofInt (-1))), (40, .int (Int32.ofInt (-1))), (41, .int (Int32.ofInt (-1))), (42, .int (Int32.ofInt (-1))), (43, .int (Int32.ofInt (-1))), (44, .int (Int32.ofInt (-1))), (45, .int (Int32.ofInt (-1))), (46, .int (Int32.ofInt (-1))), (47, .int (Int32.ofInt (-1))), (48, .int (Int32.ofInt (-1))), (49, .int (Int32.ofInt (-1))), (50, .int (Int32.ofInt (-1))), (51, .int (Int32.ofInt (-1))), (52, .int (Int32.ofInt (-1))), (53, .int (Int32.ofInt (-1))), (54, .int (Int32.ofInt (-1))), (55, .int (Int32.ofInt (-1))), (56, .int (Int32.ofInt (-1))), (57, .int (Int32.ofInt (-1))), (58, .int (Int32.ofInt (-1))), (59, .int (Int32.ofInt (-1))), (60, .int (Int32.ofInt (-1))), (61, .int (Int32.ofInt (-1))), (62, .int (Int32.ofInt (-1))), (63, .int (Int32.ofInt (-1)))]))]), (4, [(64, (20, 5, [])), (65, (20, 5, [])), (66, (20, 30, [])), (67, (20, 8, [])), (68, (20, 8, [])), (69, (20, 8, [])), (70, (20, 8, [])), (71, (21, 800, [])), (72, (21, 100, [])), (73, (20, 42, [(0, .int (Int32.ofInt (115))), (1, .int (Int32.ofInt (105))), (2, .int (Int32.ofInt (122))), (3, .int (Int32.ofInt (101))), (4, .int (Int32.ofInt (32))), (5, .int (Int32.ofInt (0))), (6, .int (Int32.ofInt (115))), (7, .int (Int32.ofInt (111))), (8, .int (Int32.ofInt (105))), (9, .int (Int32.ofInt (108))), (10, .int (Int32.ofInt (32))), (11, .int (Int32.ofInt (0))), (12, .int (Int32.ofInt (114))), (13, .int (Int32.ofInt (111))), (14, .int (Int32.ofInt (97))), (15, .int (Int32.ofInt (100))), (16, .int (Int32.ofInt (32))), (17, .int (Int32.ofInt (0))), (18, .int (Int32.ofInt (119))), (19, .int (Int32.ofInt (101))), (20, .int (Int32.ofInt (108))), (21, .int (Int32.ofInt (108))), (22, .int (Int32.ofInt (32))), (23, .int (Int32.ofInt (0))), (24, .int (Int32.ofInt (111))), (25, .int (Int32.ofInt (97))), (26, .int (Int32.ofInt (107))), (27, .int (Int32.ofInt (32))), (28, .int (Int32.ofInt (0))), (29, .int (Int32.ofInt (115))), (30, .int (Int32.ofInt (109))), (31, .int (Int32.ofInt (97))), (32, .int (Int32.ofInt (108))), (33, .int (Int32.ofInt (108))), (34, .int (Int32.ofInt (32))), (35, .int (Int32.ofInt (0))), (36, .int (Int32.ofInt (104))), (37, .int (Int32.ofInt (101))), (38, .int (Int32.ofInt (105))), (39, .int (Int32.ofInt (114))), (40, .int (Int32.ofInt (32))), (41, .int (Int32.ofInt (0)))])), (74, (20, 180, [])), (75, (20, 180, [])), (76, (20, 1000, [])), (77, (20, 64, [])), (78, (20, 20, []))])])
def aL0 : aLo := [some (.index 1000000), some (.index 0), some (.index 60), some (.int 0)]
def aG0 : aG := [(.arg 10, 6, 6)]
def aX0 (pc : Nat) : aTp5 := (pc, aL0, [], aH0, aG0)
def aCase (x : aTp5) : Prop := ∀ (ι : aIn) (X : sX), aHX ι X → aZok ι → aOk ι x.2.2.2.2 → aPr ι X 258 10 aEnd x
def aNoK (_ : Nat) (_ : aLo) (_ : List tM) (_ : aHp) (_ : aG) : Bool := false
theorem a_case {x : aTp5} (h : aRun true aNoK 6000 true 10 258 x.1 x.2.1 x.2.2.1 x.2.2.2.1 x.2.2.2.2 aK0 = true) : aCase x := fun _ _ HX hz hG => aRun_ok (c := true) ⟨fun _ => HX, fun e => by cases e⟩ (fun _ _ _ _ _ e => by cases e) (fun _ _ q => aK0_ok hz q) 6000 true 10 258 _ _ _ _ _ aK0 h hG (fun _ => ⟨rfl, rfl, rfl⟩)
def aTgs : List Nat := [220, 263, 336, 399, 433, 466, 489, 522, 556, 579, 592, 625, 658, 691, 714, 757, 806, 839, 902, 925, 988, 1031, 1054, 1078, 1091, 1104, 1117, 1170, 1193, 1216, 1259, 1282, 1305, 1318, 1341, 1374, 1397, 1431, 1454, 1497, 1520, 1533, 1546]
def aK2h (pc : Nat) (L : aLo) (st : List tM) (h : aHp) (G : aG) : Bool := aTgs.any (fun t => Nat.beq pc t) && aTq (aX0 pc) pc L st h G
theorem a_head_t : aRun true aK2h 6000 true 10 258 0 [some (.index 1000000), none, none, none] [] (0, []) [(.arg 10, 0, 6)] aK0 = true := by decide +kernel
theorem a_head (hc : ∀ pc ∈ aTgs, aCase (aX0 pc)) {ι : aIn} {X : sX} (HX : aHX ι X) (hz : aZok ι) (hG : aOk ι [(.arg 10, 0, 6)]) : sGo X 258 10 0 [some (.ref 1000000), none, none, none] [] [] aEnd := by
  refine aRun_ok (c := true) (K2 := aK2h) ⟨fun _ => HX, fun e => by cases e⟩ (fun pc L st h G g hG => ?_) (fun _ _ q => aK0_ok hz q) 6000 true 10 258 0 [some (.index 1000000), none, none, none] [] (0, []) [(.arg 10, 0, 6)] aK0 a_head_t hG (fun _ => ⟨rfl, rfl, rfl⟩)
  obtain ⟨g1, g2⟩ := aBa g
  obtain ⟨t, ht, g1⟩ := List.any_eq_true.mp g1
  cases aBt g1
  exact aTq_ok g2 hG (fun hG1 => hc pc ht ι X HX hz hG1)
/-! row's state behind the first call -/
def aRws : List Nat := [44, 46, 48, 50, 52, 54, 56, 58]
def aHr (i : Nat) : aHp := match aNth aRws i with
  | some a => (match aCe aH0 a with
    | (c, n, l) => aSe aH0 a (c, n, aPt 0 (.arg 2) (aPt 1 (.arg 3) l)))
  | none => aH0
def aXr (i : Nat) : aTp5 := (239, aL0, [.int 1], aHr i, [(.arg 10, 6, 6), (.arg 1, (i : Int), (i : Int)), (.arg 2, 0, 3), (.arg 3, 0, 100)])
def aK2r (pc : Nat) (L : aLo) (st : List tM) (h : aHp) (G : aG) : Bool := Nat.beq pc 239 && (Nat.blt (aIv 6 G (.arg 1)).1.toNat 8 && aTq (aXr (aIv 6 G (.arg 1)).1.toNat) pc L st h G)
