/-! ===== the fields out of what always holds ===== -/
theorem bA60B {h : sHp} (hH : bH h) {p n : Nat} {lo hi : Int} {cs : List Int} (hp : p < 79) (hg : bGam (bKp p (.inr (0, []))) = some (.inl (2, n, .inl (lo, hi), cs))) : ∃ f, h[p]? = some (.inl (2, n, .inl f)) ∧ (∀ i, i < n → lo ≤ (f i).toInt ∧ (f i).toInt ≤ hi) := by
  obtain ⟨c, ct, h1, h2, h3⟩ := bH_at hH hp
  rw [bKp_at hp c (.inr (0, [])), hg] at h2
  cases h2
  obtain ⟨f, rfl, h4⟩ := h3
  exact ⟨f, h1, h4.1⟩
theorem i_01 {x : Int32} (h0 : 0 ≤ x.toInt) (h1 : x.toInt ≤ 1) : x = 0 ∨ x = 1 := by
  rcases (show x.toInt = 0 ∨ x.toInt = 1 by omega) with e | e
  · exact Or.inl (Int32.toInt_inj.mp e)
  · exact Or.inr (Int32.toInt_inj.mp e)
def fxR (h : sHp) (p : Nat) : Prop := ∃ f : Nat → Option Nat, h[p + 3]? = some (.inl (5, 5, .inr (.inr (.inr (.inr f))))) ∧ ∀ k, k < 5 → f k = some (p + 4 + k)
theorem FC_at5 {h : sHp} (hH : bH h) (fx : fxR h 5) : ∃ c : CF, FC h 5 c ∧ (∀ k, k < 5 → c.2.2.2.2.2.1 k = 0 ∨ c.2.2.2.2.2.1 k = 1) := by
  obtain ⟨fs, hf, hl, ht⟩ := bFldK hH (p := 5) (by decide) rfl
  obtain ⟨v0, e0, t0⟩ := ht 0 _ rfl
  obtain ⟨x0, rfl, -, -⟩ := bT_int t0
  obtain ⟨v1, e1, t1⟩ := ht 1 _ rfl
  obtain ⟨x1, rfl, -, -⟩ := bT_int t1
  obtain ⟨v2, e2, t2⟩ := ht 2 _ rfl
  obtain ⟨x2, rfl⟩ := t2
  obtain ⟨v3, e3, t3⟩ := ht 3 _ rfl
  obtain ⟨x3, rfl⟩ := t3
  obtain ⟨v4, e4, t4⟩ := ht 4 _ rfl
  obtain ⟨x4, rfl⟩ := t4
  obtain ⟨v5, e5, t5⟩ := ht 5 _ rfl
  obtain ⟨x5, rfl⟩ := t5
  obtain ⟨v6, e6, t6⟩ := ht 6 _ rfl
  obtain ⟨x6, rfl⟩ := t6
  obtain ⟨v7, e7, t7⟩ := ht 7 _ rfl
  obtain ⟨x7, rfl, -, -⟩ := bT_int t7
  obtain ⟨v8, e8, t8⟩ := ht 8 _ rfl
  obtain ⟨x8, rfl, -, -⟩ := bT_int t8
  obtain ⟨v9, e9, t9⟩ := ht 9 _ rfl
  obtain ⟨x9, rfl, -, -⟩ := bT_int t9
  obtain ⟨v10, e10, t10⟩ := ht 10 _ rfl
  obtain ⟨x10, rfl, -, -⟩ := bT_int t10
  obtain ⟨v11, e11, t11⟩ := ht 11 _ rfl
  obtain ⟨x11, rfl, -, -⟩ := bT_int t11
  obtain ⟨v12, e12, t12⟩ := ht 12 _ rfl
  have r12 := bT_one (by decide) (by decide +kernel) t12
  subst r12
  obtain ⟨v13, e13, t13⟩ := ht 13 _ rfl
  have r13 := bT_one (by decide) (by decide +kernel) t13
  subst r13
  obtain ⟨v14, e14, t14⟩ := ht 14 _ rfl
  have r14 := bT_one (by decide) (by decide +kernel) t14
  subst r14
  obtain ⟨v15, e15, t15⟩ := ht 15 _ rfl
  have r15 := bT_one (by decide) (by decide +kernel) t15
  subst r15
  obtain ⟨v16, e16, t16⟩ := ht 16 _ rfl
  have r16 := bT_one (by decide) (by decide +kernel) t16
  subst r16
  have e : fs = [.int x0, .int x1, .long x2, .long x3, .long x4, .long x5, .long x6, .int x7, .int x8, .int x9, .int x10, .int x11, .ref 6, .ref 7, .ref 8, .ref 14, .ref 15] := List.ext_getElem? (fun j => match j with
    | 0 => e0
    | 1 => e1
    | 2 => e2
    | 3 => e3
    | 4 => e4
    | 5 => e5
    | 6 => e6
    | 7 => e7
    | 8 => e8
    | 9 => e9
    | 10 => e10
    | 11 => e11
    | 12 => e12
    | 13 => e13
    | 14 => e14
    | 15 => e15
    | 16 => e16
    | n + 17 => by rw [List.getElem?_eq_none (by rw [hl]; show 17 ≤ n + 17; omega)]; rfl)
  subst e
  obtain ⟨so, a1⟩ := bA60L hH (p := 6) (by decide) rfl
  obtain ⟨sh, a2, -, -⟩ := bA60 hH (p := 7) (by decide) rfl
  obtain ⟨w0, b0, -, -⟩ := bA60 hH (p := 9) (by decide) rfl
  obtain ⟨w1, b1, -, -⟩ := bA60 hH (p := 10) (by decide) rfl
  obtain ⟨w2, b2, -, -⟩ := bA60 hH (p := 11) (by decide) rfl
  obtain ⟨w3, b3, -, -⟩ := bA60 hH (p := 12) (by decide) rfl
  obtain ⟨w4, b4, -, -⟩ := bA60 hH (p := 13) (by decide) rfl
  obtain ⟨fo, a9, fb⟩ := bA60B hH (p := 14) (by decide) rfl
  obtain ⟨ow, a10⟩ := bA60L hH (p := 15) (by decide) rfl
  refine ⟨((fun j => match j with | 0 => x0 | 1 => x1 | 7 => x7 | 8 => x8 | 9 => x9 | 10 => x10 | 11 => x11 | _ => 0), (fun j => match j with | 2 => x2 | 3 => x3 | 4 => x4 | 5 => x5 | 6 => x6 | _ => 0), so, sh, (fun k => match k with | 0 => w0 | 1 => w1 | 2 => w2 | 3 => w3 | _ => w4), fo, ow), ⟨hf, a1, a2, fx, fun k hk => ?_, a9, a10⟩, fun k hk => i_01 (fb k hk).1 (fb k hk).2⟩
  match k, hk with
  | 0, _ => exact b0
  | 1, _ => exact b1
  | 2, _ => exact b2
  | 3, _ => exact b3
  | 4, _ => exact b4
  | k + 5, hk => exact absurd hk (by omega)
theorem FC_at16 {h : sHp} (hH : bH h) (fx : fxR h 16) : ∃ c : CF, FC h 16 c ∧ (∀ k, k < 5 → c.2.2.2.2.2.1 k = 0 ∨ c.2.2.2.2.2.1 k = 1) := by
  obtain ⟨fs, hf, hl, ht⟩ := bFldK hH (p := 16) (by decide) rfl
  obtain ⟨v0, e0, t0⟩ := ht 0 _ rfl
  obtain ⟨x0, rfl, -, -⟩ := bT_int t0
  obtain ⟨v1, e1, t1⟩ := ht 1 _ rfl
  obtain ⟨x1, rfl, -, -⟩ := bT_int t1
  obtain ⟨v2, e2, t2⟩ := ht 2 _ rfl
  obtain ⟨x2, rfl⟩ := t2
  obtain ⟨v3, e3, t3⟩ := ht 3 _ rfl
  obtain ⟨x3, rfl⟩ := t3
  obtain ⟨v4, e4, t4⟩ := ht 4 _ rfl
  obtain ⟨x4, rfl⟩ := t4
  obtain ⟨v5, e5, t5⟩ := ht 5 _ rfl
  obtain ⟨x5, rfl⟩ := t5
  obtain ⟨v6, e6, t6⟩ := ht 6 _ rfl
  obtain ⟨x6, rfl⟩ := t6
  obtain ⟨v7, e7, t7⟩ := ht 7 _ rfl
  obtain ⟨x7, rfl, -, -⟩ := bT_int t7
  obtain ⟨v8, e8, t8⟩ := ht 8 _ rfl
  obtain ⟨x8, rfl, -, -⟩ := bT_int t8
  obtain ⟨v9, e9, t9⟩ := ht 9 _ rfl
  obtain ⟨x9, rfl, -, -⟩ := bT_int t9
  obtain ⟨v10, e10, t10⟩ := ht 10 _ rfl
  obtain ⟨x10, rfl, -, -⟩ := bT_int t10
  obtain ⟨v11, e11, t11⟩ := ht 11 _ rfl
  obtain ⟨x11, rfl, -, -⟩ := bT_int t11
  obtain ⟨v12, e12, t12⟩ := ht 12 _ rfl
  have r12 := bT_one (by decide) (by decide +kernel) t12
  subst r12
  obtain ⟨v13, e13, t13⟩ := ht 13 _ rfl
  have r13 := bT_one (by decide) (by decide +kernel) t13
  subst r13
  obtain ⟨v14, e14, t14⟩ := ht 14 _ rfl
  have r14 := bT_one (by decide) (by decide +kernel) t14
  subst r14
  obtain ⟨v15, e15, t15⟩ := ht 15 _ rfl
  have r15 := bT_one (by decide) (by decide +kernel) t15
  subst r15
  obtain ⟨v16, e16, t16⟩ := ht 16 _ rfl
  have r16 := bT_one (by decide) (by decide +kernel) t16
  subst r16
  have e : fs = [.int x0, .int x1, .long x2, .long x3, .long x4, .long x5, .long x6, .int x7, .int x8, .int x9, .int x10, .int x11, .ref 17, .ref 18, .ref 19, .ref 25, .ref 26] := List.ext_getElem? (fun j => match j with
    | 0 => e0
    | 1 => e1
    | 2 => e2
    | 3 => e3
    | 4 => e4
    | 5 => e5
    | 6 => e6
    | 7 => e7
    | 8 => e8
    | 9 => e9
    | 10 => e10
    | 11 => e11
    | 12 => e12
    | 13 => e13
    | 14 => e14
    | 15 => e15
    | 16 => e16
    | n + 17 => by rw [List.getElem?_eq_none (by rw [hl]; show 17 ≤ n + 17; omega)]; rfl)
  subst e
  obtain ⟨so, a1⟩ := bA60L hH (p := 17) (by decide) rfl
  obtain ⟨sh, a2, -, -⟩ := bA60 hH (p := 18) (by decide) rfl
  obtain ⟨w0, b0, -, -⟩ := bA60 hH (p := 20) (by decide) rfl
  obtain ⟨w1, b1, -, -⟩ := bA60 hH (p := 21) (by decide) rfl
  obtain ⟨w2, b2, -, -⟩ := bA60 hH (p := 22) (by decide) rfl
  obtain ⟨w3, b3, -, -⟩ := bA60 hH (p := 23) (by decide) rfl
  obtain ⟨w4, b4, -, -⟩ := bA60 hH (p := 24) (by decide) rfl
  obtain ⟨fo, a9, fb⟩ := bA60B hH (p := 25) (by decide) rfl
  obtain ⟨ow, a10⟩ := bA60L hH (p := 26) (by decide) rfl
  refine ⟨((fun j => match j with | 0 => x0 | 1 => x1 | 7 => x7 | 8 => x8 | 9 => x9 | 10 => x10 | 11 => x11 | _ => 0), (fun j => match j with | 2 => x2 | 3 => x3 | 4 => x4 | 5 => x5 | 6 => x6 | _ => 0), so, sh, (fun k => match k with | 0 => w0 | 1 => w1 | 2 => w2 | 3 => w3 | _ => w4), fo, ow), ⟨hf, a1, a2, fx, fun k hk => ?_, a9, a10⟩, fun k hk => i_01 (fb k hk).1 (fb k hk).2⟩
  match k, hk with
  | 0, _ => exact b0
  | 1, _ => exact b1
  | 2, _ => exact b2
  | 3, _ => exact b3
  | 4, _ => exact b4
  | k + 5, hk => exact absurd hk (by omega)
theorem FC_at27 {h : sHp} (hH : bH h) (fx : fxR h 27) : ∃ c : CF, FC h 27 c ∧ (∀ k, k < 5 → c.2.2.2.2.2.1 k = 0 ∨ c.2.2.2.2.2.1 k = 1) := by
  obtain ⟨fs, hf, hl, ht⟩ := bFldK hH (p := 27) (by decide) rfl
  obtain ⟨v0, e0, t0⟩ := ht 0 _ rfl
  obtain ⟨x0, rfl, -, -⟩ := bT_int t0
  obtain ⟨v1, e1, t1⟩ := ht 1 _ rfl
  obtain ⟨x1, rfl, -, -⟩ := bT_int t1
  obtain ⟨v2, e2, t2⟩ := ht 2 _ rfl
  obtain ⟨x2, rfl⟩ := t2
  obtain ⟨v3, e3, t3⟩ := ht 3 _ rfl
  obtain ⟨x3, rfl⟩ := t3
  obtain ⟨v4, e4, t4⟩ := ht 4 _ rfl
  obtain ⟨x4, rfl⟩ := t4
  obtain ⟨v5, e5, t5⟩ := ht 5 _ rfl
  obtain ⟨x5, rfl⟩ := t5
  obtain ⟨v6, e6, t6⟩ := ht 6 _ rfl
  obtain ⟨x6, rfl⟩ := t6
  obtain ⟨v7, e7, t7⟩ := ht 7 _ rfl
  obtain ⟨x7, rfl, -, -⟩ := bT_int t7
  obtain ⟨v8, e8, t8⟩ := ht 8 _ rfl
  obtain ⟨x8, rfl, -, -⟩ := bT_int t8
  obtain ⟨v9, e9, t9⟩ := ht 9 _ rfl
  obtain ⟨x9, rfl, -, -⟩ := bT_int t9
  obtain ⟨v10, e10, t10⟩ := ht 10 _ rfl
  obtain ⟨x10, rfl, -, -⟩ := bT_int t10
  obtain ⟨v11, e11, t11⟩ := ht 11 _ rfl
  obtain ⟨x11, rfl, -, -⟩ := bT_int t11
  obtain ⟨v12, e12, t12⟩ := ht 12 _ rfl
  have r12 := bT_one (by decide) (by decide +kernel) t12
  subst r12
  obtain ⟨v13, e13, t13⟩ := ht 13 _ rfl
  have r13 := bT_one (by decide) (by decide +kernel) t13
  subst r13
  obtain ⟨v14, e14, t14⟩ := ht 14 _ rfl
  have r14 := bT_one (by decide) (by decide +kernel) t14
  subst r14
  obtain ⟨v15, e15, t15⟩ := ht 15 _ rfl
  have r15 := bT_one (by decide) (by decide +kernel) t15
  subst r15
  obtain ⟨v16, e16, t16⟩ := ht 16 _ rfl
  have r16 := bT_one (by decide) (by decide +kernel) t16
  subst r16
  have e : fs = [.int x0, .int x1, .long x2, .long x3, .long x4, .long x5, .long x6, .int x7, .int x8, .int x9, .int x10, .int x11, .ref 28, .ref 29, .ref 30, .ref 36, .ref 37] := List.ext_getElem? (fun j => match j with
    | 0 => e0
    | 1 => e1
    | 2 => e2
    | 3 => e3
    | 4 => e4
    | 5 => e5
    | 6 => e6
    | 7 => e7
    | 8 => e8
    | 9 => e9
    | 10 => e10
    | 11 => e11
    | 12 => e12
    | 13 => e13
    | 14 => e14
    | 15 => e15
    | 16 => e16
    | n + 17 => by rw [List.getElem?_eq_none (by rw [hl]; show 17 ≤ n + 17; omega)]; rfl)
  subst e
  obtain ⟨so, a1⟩ := bA60L hH (p := 28) (by decide) rfl
  obtain ⟨sh, a2, -, -⟩ := bA60 hH (p := 29) (by decide) rfl
  obtain ⟨w0, b0, -, -⟩ := bA60 hH (p := 31) (by decide) rfl
  obtain ⟨w1, b1, -, -⟩ := bA60 hH (p := 32) (by decide) rfl
  obtain ⟨w2, b2, -, -⟩ := bA60 hH (p := 33) (by decide) rfl
  obtain ⟨w3, b3, -, -⟩ := bA60 hH (p := 34) (by decide) rfl
  obtain ⟨w4, b4, -, -⟩ := bA60 hH (p := 35) (by decide) rfl
  obtain ⟨fo, a9, fb⟩ := bA60B hH (p := 36) (by decide) rfl
  obtain ⟨ow, a10⟩ := bA60L hH (p := 37) (by decide) rfl
  refine ⟨((fun j => match j with | 0 => x0 | 1 => x1 | 7 => x7 | 8 => x8 | 9 => x9 | 10 => x10 | 11 => x11 | _ => 0), (fun j => match j with | 2 => x2 | 3 => x3 | 4 => x4 | 5 => x5 | 6 => x6 | _ => 0), so, sh, (fun k => match k with | 0 => w0 | 1 => w1 | 2 => w2 | 3 => w3 | _ => w4), fo, ow), ⟨hf, a1, a2, fx, fun k hk => ?_, a9, a10⟩, fun k hk => i_01 (fb k hk).1 (fb k hk).2⟩
  match k, hk with
  | 0, _ => exact b0
  | 1, _ => exact b1
  | 2, _ => exact b2
  | 3, _ => exact b3
  | 4, _ => exact b4
  | k + 5, hk => exact absurd hk (by omega)
theorem FC_ext5 {h : sHp} {I : Nat → Int32} {G : Nat → Int64} (hH : bH h) (hf : h[5]? = some (fO 5 I G)) (fx : fxR h 5) : ∃ R, FC h 5 (I, G, R) ∧ (∀ k, k < 5 → R.2.2.2.1 k = 0 ∨ R.2.2.2.1 k = 1) := by
  obtain ⟨so, a1⟩ := bA60L hH (p := 6) (by decide) rfl
  obtain ⟨sh, a2, -, -⟩ := bA60 hH (p := 7) (by decide) rfl
  obtain ⟨w0, b0, -, -⟩ := bA60 hH (p := 9) (by decide) rfl
  obtain ⟨w1, b1, -, -⟩ := bA60 hH (p := 10) (by decide) rfl
  obtain ⟨w2, b2, -, -⟩ := bA60 hH (p := 11) (by decide) rfl
  obtain ⟨w3, b3, -, -⟩ := bA60 hH (p := 12) (by decide) rfl
  obtain ⟨w4, b4, -, -⟩ := bA60 hH (p := 13) (by decide) rfl
  obtain ⟨fo, a9, fb⟩ := bA60B hH (p := 14) (by decide) rfl
  obtain ⟨ow, a10⟩ := bA60L hH (p := 15) (by decide) rfl
  refine ⟨(so, sh, (fun k => match k with | 0 => w0 | 1 => w1 | 2 => w2 | 3 => w3 | _ => w4), fo, ow), ⟨hf, a1, a2, fx, fun k hk => ?_, a9, a10⟩, fun k hk => i_01 (fb k hk).1 (fb k hk).2⟩
  match k, hk with
  | 0, _ => exact b0
  | 1, _ => exact b1
  | 2, _ => exact b2
  | 3, _ => exact b3
  | 4, _ => exact b4
  | k + 5, hk => exact absurd hk (by omega)
theorem FC_ext16 {h : sHp} {I : Nat → Int32} {G : Nat → Int64} (hH : bH h) (hf : h[16]? = some (fO 16 I G)) (fx : fxR h 16) : ∃ R, FC h 16 (I, G, R) ∧ (∀ k, k < 5 → R.2.2.2.1 k = 0 ∨ R.2.2.2.1 k = 1) := by
  obtain ⟨so, a1⟩ := bA60L hH (p := 17) (by decide) rfl
  obtain ⟨sh, a2, -, -⟩ := bA60 hH (p := 18) (by decide) rfl
  obtain ⟨w0, b0, -, -⟩ := bA60 hH (p := 20) (by decide) rfl
  obtain ⟨w1, b1, -, -⟩ := bA60 hH (p := 21) (by decide) rfl
  obtain ⟨w2, b2, -, -⟩ := bA60 hH (p := 22) (by decide) rfl
  obtain ⟨w3, b3, -, -⟩ := bA60 hH (p := 23) (by decide) rfl
  obtain ⟨w4, b4, -, -⟩ := bA60 hH (p := 24) (by decide) rfl
  obtain ⟨fo, a9, fb⟩ := bA60B hH (p := 25) (by decide) rfl
  obtain ⟨ow, a10⟩ := bA60L hH (p := 26) (by decide) rfl
  refine ⟨(so, sh, (fun k => match k with | 0 => w0 | 1 => w1 | 2 => w2 | 3 => w3 | _ => w4), fo, ow), ⟨hf, a1, a2, fx, fun k hk => ?_, a9, a10⟩, fun k hk => i_01 (fb k hk).1 (fb k hk).2⟩
  match k, hk with
  | 0, _ => exact b0
  | 1, _ => exact b1
  | 2, _ => exact b2
  | 3, _ => exact b3
  | 4, _ => exact b4
  | k + 5, hk => exact absurd hk (by omega)
theorem FC_ext27 {h : sHp} {I : Nat → Int32} {G : Nat → Int64} (hH : bH h) (hf : h[27]? = some (fO 27 I G)) (fx : fxR h 27) : ∃ R, FC h 27 (I, G, R) ∧ (∀ k, k < 5 → R.2.2.2.1 k = 0 ∨ R.2.2.2.1 k = 1) := by
  obtain ⟨so, a1⟩ := bA60L hH (p := 28) (by decide) rfl
  obtain ⟨sh, a2, -, -⟩ := bA60 hH (p := 29) (by decide) rfl
  obtain ⟨w0, b0, -, -⟩ := bA60 hH (p := 31) (by decide) rfl
  obtain ⟨w1, b1, -, -⟩ := bA60 hH (p := 32) (by decide) rfl
  obtain ⟨w2, b2, -, -⟩ := bA60 hH (p := 33) (by decide) rfl
  obtain ⟨w3, b3, -, -⟩ := bA60 hH (p := 34) (by decide) rfl
  obtain ⟨w4, b4, -, -⟩ := bA60 hH (p := 35) (by decide) rfl
  obtain ⟨fo, a9, fb⟩ := bA60B hH (p := 36) (by decide) rfl
  obtain ⟨ow, a10⟩ := bA60L hH (p := 37) (by decide) rfl
  refine ⟨(so, sh, (fun k => match k with | 0 => w0 | 1 => w1 | 2 => w2 | 3 => w3 | _ => w4), fo, ow), ⟨hf, a1, a2, fx, fun k hk => ?_, a9, a10⟩, fun k hk => i_01 (fb k hk).1 (fb k hk).2⟩
  match k, hk with
  | 0, _ => exact b0
  | 1, _ => exact b1
  | 2, _ => exact b2
  | 3, _ => exact b3
  | 4, _ => exact b4
  | k + 5, hk => exact absurd hk (by omega)
theorem MC_ext {h : sHp} {J : Nat → Int32} (hH : bH h) (hf : h[60]? = some (mO J)) : ∃ R, MC h (J, R) := by
  obtain ⟨so, a0, -, -⟩ := bA60 hH (p := 62) (by decide) rfl
  obtain ⟨ow, a1, -, -⟩ := bA60 hH (p := 63) (by decide) rfl
  obtain ⟨sh, a2, -, -⟩ := bA60 hH (p := 64) (by decide) rfl
  obtain ⟨fo, a3, -, -⟩ := bA60 hH (p := 65) (by decide) rfl
  obtain ⟨va, a4, -, -⟩ := bA60 hH (p := 66) (by decide) rfl
  exact ⟨(so, ow, sh, fo, va), hf, a0, a1, a2, a3, a4⟩
theorem MC_of {h : sHp} (hH : bH h) : ∃ m : MF, MC h m := by
  obtain ⟨fs, hf, hl, ht⟩ := bFldK hH (p := 60) (by decide) rfl
  obtain ⟨v0, e0, t0⟩ := ht 0 _ rfl
  obtain ⟨x0, rfl, -, -⟩ := bT_int t0
  obtain ⟨v1, e1, t1⟩ := ht 1 _ rfl
  obtain ⟨x1, rfl, -, -⟩ := bT_int t1
  obtain ⟨v2, e2, t2⟩ := ht 2 _ rfl
  obtain ⟨x2, rfl, -, -⟩ := bT_int t2
  obtain ⟨v3, e3, t3⟩ := ht 3 _ rfl
  obtain ⟨x3, rfl, -, -⟩ := bT_int t3
  obtain ⟨v4, e4, t4⟩ := ht 4 _ rfl
  obtain ⟨x4, rfl, -, -⟩ := bT_int t4
  obtain ⟨v5, e5, t5⟩ := ht 5 _ rfl
  obtain ⟨x5, rfl, -, -⟩ := bT_int t5
  obtain ⟨v6, e6, t6⟩ := ht 6 _ rfl
  obtain ⟨x6, rfl, -, -⟩ := bT_int t6
  obtain ⟨v7, e7, t7⟩ := ht 7 _ rfl
  obtain ⟨x7, rfl, -, -⟩ := bT_int t7
  obtain ⟨v8, e8, t8⟩ := ht 8 _ rfl
  have r8 := bT_one (by decide) (by decide +kernel) t8
  subst r8
  obtain ⟨v9, e9, t9⟩ := ht 9 _ rfl
  have r9 := bT_one (by decide) (by decide +kernel) t9
  subst r9
  obtain ⟨v10, e10, t10⟩ := ht 10 _ rfl
  have r10 := bT_one (by decide) (by decide +kernel) t10
  subst r10
  obtain ⟨v11, e11, t11⟩ := ht 11 _ rfl
  have r11 := bT_one (by decide) (by decide +kernel) t11
  subst r11
  obtain ⟨v12, e12, t12⟩ := ht 12 _ rfl
  have r12 := bT_one (by decide) (by decide +kernel) t12
  subst r12
  obtain ⟨v13, e13, t13⟩ := ht 13 _ rfl
  have r13 := bT_one (by decide) (by decide +kernel) t13
  subst r13
  obtain ⟨v14, e14, t14⟩ := ht 14 _ rfl
  have r14 := bT_one (by decide) (by decide +kernel) t14
  subst r14
  obtain ⟨v15, e15, t15⟩ := ht 15 _ rfl
  have r15 := bT_one (by decide) (by decide +kernel) t15
  subst r15
  obtain ⟨v16, e16, t16⟩ := ht 16 _ rfl
  have r16 := bT_one (by decide) (by decide +kernel) t16
  subst r16
  obtain ⟨v17, e17, t17⟩ := ht 17 _ rfl
  have r17 := bT_one (by decide) (by decide +kernel) t17
  subst r17
  obtain ⟨v18, e18, t18⟩ := ht 18 _ rfl
  have r18 := bT_one (by decide) (by decide +kernel) t18
  subst r18
  obtain ⟨v19, e19, t19⟩ := ht 19 _ rfl
  have r19 := bT_one (by decide) (by decide +kernel) t19
  subst r19
  obtain ⟨v20, e20, t20⟩ := ht 20 _ rfl
  have r20 := bT_one (by decide) (by decide +kernel) t20
  subst r20
  obtain ⟨v21, e21, t21⟩ := ht 21 _ rfl
  obtain ⟨x21, rfl, -, -⟩ := bT_int t21
  obtain ⟨v22, e22, t22⟩ := ht 22 _ rfl
  obtain ⟨x22, rfl, -, -⟩ := bT_int t22
  obtain ⟨v23, e23, t23⟩ := ht 23 _ rfl
  obtain ⟨x23, rfl, -, -⟩ := bT_int t23
  obtain ⟨v24, e24, t24⟩ := ht 24 _ rfl
  obtain ⟨x24, rfl, -, -⟩ := bT_int t24
  obtain ⟨v25, e25, t25⟩ := ht 25 _ rfl
  obtain ⟨x25, rfl, -, -⟩ := bT_int t25
  obtain ⟨v26, e26, t26⟩ := ht 26 _ rfl
  have r26 := bT_one (by decide) (by decide +kernel) t26
  subst r26
  obtain ⟨v27, e27, t27⟩ := ht 27 _ rfl
  have r27 := bT_one (by decide) (by decide +kernel) t27
  subst r27
  obtain ⟨v28, e28, t28⟩ := ht 28 _ rfl
  obtain ⟨x28, rfl, -, -⟩ := bT_int t28
  obtain ⟨v29, e29, t29⟩ := ht 29 _ rfl
  have r29 := bT_one (by decide) (by decide +kernel) t29
  subst r29
  obtain ⟨v30, e30, t30⟩ := ht 30 _ rfl
  have r30 := bT_one (by decide) (by decide +kernel) t30
  subst r30
  obtain ⟨v31, e31, t31⟩ := ht 31 _ rfl
  obtain ⟨x31, rfl, -, -⟩ := bT_int t31
  obtain ⟨v32, e32, t32⟩ := ht 32 _ rfl
  obtain ⟨x32, rfl, -, -⟩ := bT_int t32
  obtain ⟨v33, e33, t33⟩ := ht 33 _ rfl
  obtain ⟨x33, rfl, -, -⟩ := bT_int t33
  obtain ⟨v34, e34, t34⟩ := ht 34 _ rfl
  obtain ⟨x34, rfl, -, -⟩ := bT_int t34
  obtain ⟨v35, e35, t35⟩ := ht 35 _ rfl
  have r35 := bT_one (by decide) (by decide +kernel) t35
  subst r35
  obtain ⟨v36, e36, t36⟩ := ht 36 _ rfl
  obtain ⟨x36, rfl, -, -⟩ := bT_int t36
  obtain ⟨v37, e37, t37⟩ := ht 37 _ rfl
  obtain ⟨x37, rfl, -, -⟩ := bT_int t37
  have e : fs = [.int x0, .int x1, .int x2, .int x3, .int x4, .int x5, .int x6, .int x7, .ref 61, .ref 62, .ref 63, .ref 64, .ref 65, .ref 66, .ref 67, .ref 68, .ref 69, .ref 70, .ref 71, .ref 72, .ref 73, .int x21, .int x22, .int x23, .int x24, .int x25, .ref 74, .ref 75, .int x28, .ref 76, .ref 77, .int x31, .int x32, .int x33, .int x34, .ref 78, .int x36, .int x37] := List.ext_getElem? (fun j => match j with
    | 0 => e0
    | 1 => e1
    | 2 => e2
    | 3 => e3
    | 4 => e4
    | 5 => e5
    | 6 => e6
    | 7 => e7
    | 8 => e8
    | 9 => e9
    | 10 => e10
    | 11 => e11
    | 12 => e12
    | 13 => e13
    | 14 => e14
    | 15 => e15
    | 16 => e16
    | 17 => e17
    | 18 => e18
    | 19 => e19
    | 20 => e20
    | 21 => e21
    | 22 => e22
    | 23 => e23
    | 24 => e24
    | 25 => e25
    | 26 => e26
    | 27 => e27
    | 28 => e28
    | 29 => e29
    | 30 => e30
    | 31 => e31
    | 32 => e32
    | 33 => e33
    | 34 => e34
    | 35 => e35
    | 36 => e36
    | 37 => e37
    | n + 38 => by rw [List.getElem?_eq_none (by rw [hl]; show 38 ≤ n + 38; omega)]; rfl)
  subst e
  obtain ⟨so, a0, -, -⟩ := bA60 hH (p := 62) (by decide) rfl
  obtain ⟨ow, a1, -, -⟩ := bA60 hH (p := 63) (by decide) rfl
  obtain ⟨sh, a2, -, -⟩ := bA60 hH (p := 64) (by decide) rfl
  obtain ⟨fo, a3, -, -⟩ := bA60 hH (p := 65) (by decide) rfl
  obtain ⟨va, a4, -, -⟩ := bA60 hH (p := 66) (by decide) rfl
  exact ⟨((fun j => match j with | 0 => x0 | 1 => x1 | 2 => x2 | 3 => x3 | 4 => x4 | 5 => x5 | 6 => x6 | 7 => x7 | 21 => x21 | 22 => x22 | 23 => x23 | 24 => x24 | 25 => x25 | 28 => x28 | 31 => x31 | 32 => x32 | 33 => x33 | 34 => x34 | 36 => x36 | 37 => x37 | _ => 0), so, ow, sh, fo, va), hf, a0, a1, a2, a3, a4⟩
theorem WD_of {h : sHp} (hH : bH h) : ∃ wd, h[73]? = some (.inl (0, 42, .inl wd)) ∧ WD wd := by
  obtain ⟨wd, a0, -, a2⟩ := bA60 hH (p := 73) (by decide) rfl
  refine ⟨wd, a0, fun i hi => ?_⟩
  have key : ∀ i, i < 42 → ([115, 105, 122, 101, 32, 0, 115, 111, 105, 108, 32, 0, 114, 111, 97, 100, 32, 0, 119, 101, 108, 108, 32, 0, 111, 97, 107, 32, 0, 115, 109, 97, 108, 108, 32, 0, 104, 101, 105, 114, 32, 0] : List Int)[i]? = some (wdL.getD i 0) := by decide
  exact a2 i _ (key i hi)
/-! ===== acts that may be ===== -/
def okPl (n : Nat) (what v : Int) : Prop := (what = 0 ∧ 0 ≤ v ∧ v ≤ 3) ∨ ((what = 1 ∨ what = 2) ∧ (v = -1 ∨ (0 ≤ v ∧ v < (n : Int)))) ∨ (what = 3 ∧ 0 ≤ v ∧ v ≤ 20)
def actOk (s : Sg) (a : Act) : Prop := match a with
  | (0, w, hh, _) => 2 ≤ w ∧ w ≤ 8 ∧ 2 ≤ hh ∧ hh ≤ 8
  | (1, v, fr, to) => v < 6 ∧ fr ≤ to ∧ to < s.1 * s.2.1
  | (2, k, v, _) => k < 4 ∧ v < 100 ∧ okPl (s.1 * s.2.1) k v
  | (3, share, _, _) => 1 ≤ share ∧ share ≤ 9 ∧ s.2.2 < 5
  | (_, i, v, x) => i < s.2.2 ∧ v < 6 ∧ x < 100
def actsOk : Sg → List Act → Prop
  | _, [] => True
  | s, a :: as => actOk s a ∧ actsOk (sgDo s a) as
theorem acts_app : ∀ {as bs : List Act} {s : Sg}, actsOk s as → actsOk (as.foldl sgDo s) bs → actsOk s (as ++ bs) := by
  intro as
  induction as with
  | nil => intro bs s _ h; exact h
  | cons a as ih => intro bs s h g; exact ⟨h.1, ih h.2 g⟩
theorem wrt_ok {T : Nat → Int32} {E : Nat} : ∀ {f v p : Nat} {as : List Act} {p2 : Nat} {s : Sg}, wrtS T E f v p = some (as, p2) → E < s.2.2 → v + f ≤ 6 → actsOk s as ∧ as.foldl sgDo s = s := by
  intro f
  induction f with
  | zero => intro v p as p2 s h _ _; cases h; exact ⟨trivial, rfl⟩
  | succ f ih =>
    intro v p as p2 s h hE hv
    unfold wrtS at h
    cases h1 : nxtS T p 0 99 with
    | none => rw [h1] at h; cases h
    | some xp =>
      obtain ⟨x, p'⟩ := xp
      rw [h1] at h
      have b := nxtS_le h1
      dsimp only at h
      cases h2 : wrtS T E f (v + 1) p' with
      | none => rw [h2] at h; cases h
      | some ap =>
        obtain ⟨as', p''⟩ := ap
        rw [h2] at h
        cases h
        have k := ih (s := s) h2 hE (by omega)
        exact ⟨⟨⟨hE, by omega, by omega⟩, k.1⟩, k.2⟩
theorem itm_ok {T : Nat → Int32} {p p2 : Nat} {as : List Act} {s : Sg} (h : itmS T p s = some (as, p2)) (hs : s.1 * s.2.1 ≤ 64) : actsOk s as := by
  have plc : ∀ {p1 k : Nat} {lo hi : Int}, k ≤ 3 → (∀ v : Nat, (v : Int) ≤ hi → okPl (s.1 * s.2.1) k v) → plcS T p1 k lo hi = some (as, p2) → actsOk s as := by
    intro p1 k lo hi hk hok h
    unfold plcS at h
    cases h1 : nxtS T p1 lo hi with
    | none => rw [h1] at h; cases h
    | some vp =>
      obtain ⟨x, p'⟩ := vp
      have b := nxtS_le h1
      rw [h1] at h
      cases h
      exact ⟨⟨by omega, by omega, hok _ (by omega)⟩, trivial⟩
  unfold itmS at h
  cases hw : wdS T p (if s.2.2 < 5 then 7 else 6) 0 with
  | none => rw [hw] at h; cases h
  | some v =>
    rw [hw] at h
    have vl := wdS_lt hw
    have v7 : v < 7 := by
      by_cases c5 : s.2.2 < 5
      · rw [if_pos c5] at vl; omega
      · rw [if_neg c5] at vl; omega
    have h6 : v = 6 → s.2.2 < 5 := fun z => by
      by_cases c5 : s.2.2 < 5
      · exact c5
      · rw [if_neg c5] at vl; omega
    match v, v7, h6, h with
    | 0, _, _, h =>
      have h : sizS T (p + wlS 0) = some (as, p2) := h
      unfold sizS at h
      cases h1 : nxtS T (p + wlS 0) 2 8 with
      | none => rw [h1] at h; cases h
      | some vp =>
        obtain ⟨w, p1⟩ := vp
        rw [h1] at h
        have b1 := nxtS_le h1
        dsimp only at h
        cases h2 : nxtS T p1 2 8 with
        | none => rw [h2] at h; cases h
        | some vp2 =>
          obtain ⟨hh, p3⟩ := vp2
          rw [h2] at h
          have b2 := nxtS_le h2
          cases h
          exact ⟨⟨by omega, by omega, by omega, by omega⟩, trivial⟩
    | 1, _, _, h =>
      have h : soiS T (p + wlS 1) (((s.1 * s.2.1 : Nat) : Int) - 1) = some (as, p2) := h
      unfold soiS at h
      cases h1 : nxtS T (p + wlS 1) 0 5 with
      | none => rw [h1] at h; cases h
      | some vp =>
        obtain ⟨v, p1⟩ := vp
        rw [h1] at h
        have b1 := nxtS_le h1
        dsimp only at h
        cases h2 : nxtS T p1 0 (((s.1 * s.2.1 : Nat) : Int) - 1) with
        | none => rw [h2] at h; cases h
        | some vp2 =>
          obtain ⟨fr, p3⟩ := vp2
          rw [h2] at h
          dsimp only at h
          cases h3 : nxtS T p3 fr (((s.1 * s.2.1 : Nat) : Int) - 1) with
          | none => rw [h3] at h; cases h
          | some vp3 =>
            obtain ⟨to, p4⟩ := vp3
            rw [h3] at h
            have b3 := nxtS_le h3
            cases h
            exact ⟨⟨by omega, by omega, by omega⟩, trivial⟩
    | 2, _, _, h => exact plc (k := 0) (by decide) (fun v hv => by unfold okPl; omega) h
    | 3, _, _, h => exact plc (k := 1) (by decide) (fun v hv => by unfold okPl; omega) h
    | 4, _, _, h => exact plc (k := 2) (by decide) (fun v hv => by unfold okPl; omega) h
    | 5, _, _, h => exact plc (k := 3) (by decide) (fun v hv => by unfold okPl; omega) h
    | 6, _, h6, h =>
      have h : heiS T (p + wlS 6) s.2.2 = some (as, p2) := h
      unfold heiS at h
      cases h1 : nxtS T (p + wlS 6) 1 9 with
      | none => rw [h1] at h; cases h
      | some vp =>
        obtain ⟨share, p1⟩ := vp
        rw [h1] at h
        have b1 := nxtS_le h1
        dsimp only at h
        cases h2 : wrtS T s.2.2 6 0 p1 with
        | none => rw [h2] at h; cases h
        | some ap =>
          obtain ⟨as', p3⟩ := ap
          rw [h2] at h
          cases h
          exact ⟨⟨by omega, by omega, h6 rfl⟩, (wrt_ok (s := (s.1, s.2.1, s.2.2 + 1)) h2 (Nat.lt_succ_self _) (by decide)).1⟩
    | k + 7, z, _, _ => exact absurd z (by omega)
theorem its_ok {T : Nat → Int32} {n : Nat} : ∀ {f p K : Nat} {as : List Act} {c : CF} {s : Sg}, itsS T n f s p = some (K, as) → sgI c s → actsOk s as ∧ sgI (as.foldl cfDo c) (as.foldl sgDo s) := by
  intro f
  induction f with
  | zero => intro p K as c s h _; cases h
  | succ f ih =>
    intro p K as c s h q
    unfold itsS at h
    cases h1 : itmS T p s with
    | none => rw [h1] at h; cases h
    | some ap =>
      obtain ⟨bs, p1⟩ := ap
      rw [h1] at h
      have k1 := itm_ok h1 (sq_le q.2.2.2.2.1 q.2.2.2.2.2.2.1)
      have k2 := (sg_itm h1 q).1
      dsimp only at h
      by_cases c1 : n ≤ p1
      · rw [if_pos c1] at h
        cases h
        exact ⟨k1, k2⟩
      · rw [if_neg c1] at h
        by_cases c2 : T p1 = 59
        · rw [if_pos c2] at h
          cases h2 : itsS T n f (bs.foldl sgDo s) (p1 + 1) with
          | none => rw [h2] at h; cases h
          | some kb =>
            obtain ⟨k, ds⟩ := kb
            rw [h2] at h
            cases h
            have z := ih h2 k2
            refine ⟨acts_app k1 z.1, ?_⟩
            rw [List.foldl_append, List.foldl_append]
            exact z.2
        · rw [if_neg c2] at h
          cases h
