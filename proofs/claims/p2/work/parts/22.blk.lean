/-! ===== pieces of runs, put together ===== -/
def aClo (t : tM) : Bool := match t with
  | .int _ => true
  | .long _ => true
  | .index _ => true
  | .null => true
  | _ => false
theorem aClo_ok (ι ι' : aIn) {t : tM} (h : aClo t = true) : eT ι t = eT ι' t := by
  unfold aClo at h
  split at h <;> first | rfl | cases h
def aCcl (c : aC) : Bool := Nat.blt c.1 26 && c.2.2.all (fun e => aClo e.2)
def aHcl (h : aHp) : Bool := (List.range h.1).all (fun a => aCcl (aCe h a))
theorem aTd_cl (ty : FieldType) : aClo (aTd ty) = true := by cases ty <;> rfl
theorem aAd_cl (c : Nat) : aClo (aAd c) = true := by
  unfold aAd
  cases Nat.beq c 21 with
  | true => rfl
  | false =>
    cases (Nat.beq c 20 || Nat.beq c 22) with
    | true => rfl
    | false => rfl
theorem aGt_cl {d : tM} (hd : aClo d = true) {l : List (Nat × tM)} (hl : l.all (fun e => aClo e.2) = true) (i : Nat) : aClo (aGt d i l) = true := by
  rcases aGt_mem d i l with e | ⟨e, he, e1⟩
  · rw [e]; exact hd
  · rw [e1]; exact List.all_eq_true.mp hl e he
theorem aCcl_ok (ι ι' : aIn) {c : aC} (h : aCcl c = true) : eC ι c = eC ι' c := by
  obtain ⟨h1, h2⟩ := aBa h
  have h1 := aBl h1
  have e1 : ∀ i, eT ι (aGt (aAd c.1) i c.2.2) = eT ι' (aGt (aAd c.1) i c.2.2) := fun i => aClo_ok ι ι' (aGt_cl (aAd_cl _) h2 i)
  have e2 : ∀ i, eT ι (aGt (aTd (sTy c.1 i)) i c.2.2) = eT ι' (aGt (aTd (sTy c.1 i)) i c.2.2) := fun i => aClo_ok ι ι' (aGt_cl (aTd_cl _) h2 i)
  unfold eC
  simp only [e1, e2]
  split
  · rfl
  · split
    · rfl
    · split
      · rfl
      · first | rfl | rw [if_pos h1, if_pos h1]
theorem aHcl_ok (ι ι' : aIn) {h : aHp} (g : aHcl h = true) : eH ι h = eH ι' h := by
  unfold eH
  refine List.map_congr_left (fun a ha => ?_)
  exact aCcl_ok ι ι' (List.all_eq_true.mp g a ha)
theorem aH0_cl : aHcl aH0 = true := by decide +kernel
def aKs (hE : aHp) (ts : List (tM × aG)) : aKt := fun t h G => match t with
  | some t => ts.any (fun e => tBq 20 t e.1 && aGq G e.2) && aHq h hE
  | none => false
def aKx (xs : List aTp5) (pc : Nat) (L : aLo) (st : List tM) (h : aHp) (G : aG) : Bool := xs.any (fun x => aTq x pc L st h G)
theorem aKs_ok {ι : aIn} {hE : aHp} {ts : List (tM × aG)} {r : Option Value} {h : sHp} (g : aQ ι (aKs hE ts) r h) : ∃ e ∈ ts, r = some (eT ι e.1) ∧ aOk ι e.2 ∧ h = eH ι hE := by
  obtain ⟨t, hf, Gf, g1, ho, rfl, rfl⟩ := g
  cases t with
  | none => cases g1
  | some t =>
    obtain ⟨a, b⟩ := aBa g1
    obtain ⟨e, he, a⟩ := List.any_eq_true.mp a
    obtain ⟨a1, a2⟩ := aBa a
    exact ⟨e, he, by rw [tBq_eq _ _ _ a1]; rfl, aGq_ok a2 ho, aHq_ok ι b⟩
/-- a piece of a method's run: it goes to one of the places xs, or returns one of the values ts with the cells hE -/
theorem a_blk {ι : aIn} {k d : Nat} {Q : Option Value → sHp → Prop} {x : aTp5} {xs : List aTp5} {hE : aHp} {ts : List (tM × aG)} (g : aRun false (aKx xs) 600 true d k x.1 x.2.1 x.2.2.1 x.2.2.2.1 x.2.2.2.2 (aKs hE ts) = true) (hG : aOk ι x.2.2.2.2) (h1 : ∀ x' ∈ xs, aOk ι x'.2.2.2.2 → aPr ι none k d Q x') (h2 : ∀ e ∈ ts, aOk ι e.2 → Q (some (eT ι e.1)) (eH ι hE)) : aPr ι none k d Q x := by
  refine aRun_ok (X := none) (c := false) ⟨(fun e => by cases e), fun _ => rfl⟩ (fun pc L st h G q ho => ?_) (fun r h q => ?_) 600 true d k _ _ _ _ _ (aKs hE ts) g hG (fun _ => ⟨rfl, rfl, rfl⟩)
  · obtain ⟨x', hx, q1⟩ := List.any_eq_true.mp q
    exact aTq_ok q1 ho (h1 x' hx)
  · obtain ⟨e, he, rfl, ho, rfl⟩ := aKs_ok q
    exact h2 e he ho
/-- the same in the law's own run -/
theorem a_blkL {ι : aIn} {X : sX} (HX : aHX ι X) (hz : aZok ι) {x : aTp5} {xs : List aTp5} (g : aRun true (aKx xs) 6000 true 10 258 x.1 x.2.1 x.2.2.1 x.2.2.2.1 x.2.2.2.2 aK0 = true) (hG : aOk ι x.2.2.2.2) (h1 : ∀ x' ∈ xs, aOk ι x'.2.2.2.2 → aPr ι X 258 10 aEnd x') : aPr ι X 258 10 aEnd x := by
  refine aRun_ok (c := true) ⟨fun _ => HX, fun e => by cases e⟩ (fun pc L st h G q ho => ?_) (fun _ _ q => aK0_ok hz q) 6000 true 10 258 _ _ _ _ _ aK0 g hG (fun _ => ⟨rfl, rfl, rfl⟩)
  obtain ⟨x', hx, q1⟩ := List.any_eq_true.mp q
  exact aTq_ok q1 ho (h1 x' hx)
