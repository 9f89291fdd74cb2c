/-! ===== the class's field, exactly ===== -/
/-- a field of the class: its ints and longs by their places among the fields, its soils, shares, worths, fond, owned -/
def CF : Type := (Nat → Int32) × (Nat → Int64) × (Nat → Int64) × (Nat → Int32) × (Nat → Nat → Int32) × (Nat → Int32) × (Nat → Int64)
def fO (p : Nat) (I : Nat → Int32) (G : Nat → Int64) : va_E := .inr (3, [.int (I 0), .int (I 1), .long (G 2), .long (G 3), .long (G 4), .long (G 5), .long (G 6), .int (I 7), .int (I 8), .int (I 9), .int (I 10), .int (I 11), .ref (p + 1), .ref (p + 2), .ref (p + 3), .ref (p + 9), .ref (p + 10)])
def FC (h : sHp) (p : Nat) (c : CF) : Prop := h[p]? = some (fO p c.1 c.2.1) ∧ h[p + 1]? = some (.inl (1, 6, .inr (.inl c.2.2.1))) ∧ h[p + 2]? = some (.inl (0, 5, .inl c.2.2.2.1)) ∧ (∃ f : Nat → Option Nat, h[p + 3]? = some (.inl (5, 5, .inr (.inr (.inr (.inr f))))) ∧ ∀ k, k < 5 → f k = some (p + 4 + k)) ∧ (∀ k, k < 5 → h[p + 4 + k]? = some (.inl (0, 6, .inl (c.2.2.2.2.1 k)))) ∧ h[p + 9]? = some (.inl (2, 5, .inl c.2.2.2.2.2.1)) ∧ h[p + 10]? = some (.inl (1, 7, .inr (.inl c.2.2.2.2.2.2)))
/-- a cell outside a field -/
theorem FC_out {h : sHp} {p q : Nat} {c : CF} {x : va_E} (F : FC h p c) (hq : q < p ∨ p + 10 < q) : FC (h.set q x) p c := by
  obtain ⟨a0, a1, a2, ⟨f, a3, a4⟩, a5, a6, a7⟩ := F
  exact ⟨by rw [s_set_ne (by omega)]; exact a0, by rw [s_set_ne (by omega)]; exact a1, by rw [s_set_ne (by omega)]; exact a2, ⟨f, by rw [s_set_ne (by omega)]; exact a3, a4⟩, fun k hk => by rw [s_set_ne (by omega)]; exact a5 k hk, by rw [s_set_ne (by omega)]; exact a6, by rw [s_set_ne (by omega)]; exact a7⟩
theorem FC_0 {h : sHp} {p : Nat} {c : CF} {I : Nat → Int32} {G : Nat → Int64} (F : FC h p c) : FC (h.set p (fO p I G)) p (I, G, c.2.2) := by
  obtain ⟨a0, a1, a2, ⟨f, a3, a4⟩, a5, a6, a7⟩ := F
  exact ⟨s_set_eq a0, by rw [s_set_ne (by omega)]; exact a1, by rw [s_set_ne (by omega)]; exact a2, ⟨f, by rw [s_set_ne (by omega)]; exact a3, a4⟩, fun k hk => by rw [s_set_ne (by omega)]; exact a5 k hk, by rw [s_set_ne (by omega)]; exact a6, by rw [s_set_ne (by omega)]; exact a7⟩
theorem FC_1 {h : sHp} {p : Nat} {c : CF} {so : Nat → Int64} (F : FC h p c) : FC (h.set (p + 1) (.inl (1, 6, .inr (.inl so)))) p (c.1, c.2.1, so, c.2.2.2) := by
  obtain ⟨a0, a1, a2, ⟨f, a3, a4⟩, a5, a6, a7⟩ := F
  exact ⟨by rw [s_set_ne (by omega)]; exact a0, s_set_eq a1, by rw [s_set_ne (by omega)]; exact a2, ⟨f, by rw [s_set_ne (by omega)]; exact a3, a4⟩, fun k hk => by rw [s_set_ne (by omega)]; exact a5 k hk, by rw [s_set_ne (by omega)]; exact a6, by rw [s_set_ne (by omega)]; exact a7⟩
theorem FC_2 {h : sHp} {p : Nat} {c : CF} {sh : Nat → Int32} (F : FC h p c) : FC (h.set (p + 2) (.inl (0, 5, .inl sh))) p (c.1, c.2.1, c.2.2.1, sh, c.2.2.2.2) := by
  obtain ⟨a0, a1, a2, ⟨f, a3, a4⟩, a5, a6, a7⟩ := F
  exact ⟨by rw [s_set_ne (by omega)]; exact a0, by rw [s_set_ne (by omega)]; exact a1, s_set_eq a2, ⟨f, by rw [s_set_ne (by omega)]; exact a3, a4⟩, fun k hk => by rw [s_set_ne (by omega)]; exact a5 k hk, by rw [s_set_ne (by omega)]; exact a6, by rw [s_set_ne (by omega)]; exact a7⟩
theorem FC_4 {h : sHp} {p k0 : Nat} {c : CF} {w : Nat → Int32} (F : FC h p c) (hk0 : k0 < 5) : FC (h.set (p + 4 + k0) (.inl (0, 6, .inl w))) p (c.1, c.2.1, c.2.2.1, c.2.2.2.1, (fun k => if k = k0 then w else c.2.2.2.2.1 k), c.2.2.2.2.2) := by
  obtain ⟨a0, a1, a2, ⟨f, a3, a4⟩, a5, a6, a7⟩ := F
  refine ⟨by rw [s_set_ne (by omega)]; exact a0, by rw [s_set_ne (by omega)]; exact a1, by rw [s_set_ne (by omega)]; exact a2, ⟨f, by rw [s_set_ne (by omega)]; exact a3, a4⟩, fun k hk => ?_, by rw [s_set_ne (by omega)]; exact a6, by rw [s_set_ne (by omega)]; exact a7⟩
  by_cases e : k = k0
  · rw [e]
    show _ = (some (.inl (0, 6, .inl (if k0 = k0 then w else c.2.2.2.2.1 k0))) : Option va_E)
    rw [if_pos rfl]
    exact s_set_eq (a5 k0 hk0)
  · rw [s_set_ne (by omega)]
    show _ = (some (.inl (0, 6, .inl (if k = k0 then w else c.2.2.2.2.1 k))) : Option va_E)
    rw [if_neg e]
    exact a5 k hk
theorem FC_9 {h : sHp} {p : Nat} {c : CF} {fo : Nat → Int32} (F : FC h p c) : FC (h.set (p + 9) (.inl (2, 5, .inl fo))) p (c.1, c.2.1, c.2.2.1, c.2.2.2.1, c.2.2.2.2.1, fo, c.2.2.2.2.2.2) := by
  obtain ⟨a0, a1, a2, ⟨f, a3, a4⟩, a5, a6, a7⟩ := F
  exact ⟨by rw [s_set_ne (by omega)]; exact a0, by rw [s_set_ne (by omega)]; exact a1, by rw [s_set_ne (by omega)]; exact a2, ⟨f, by rw [s_set_ne (by omega)]; exact a3, a4⟩, fun k hk => by rw [s_set_ne (by omega)]; exact a5 k hk, s_set_eq a6, by rw [s_set_ne (by omega)]; exact a7⟩
theorem FC_10 {h : sHp} {p : Nat} {c : CF} {ow : Nat → Int64} (F : FC h p c) : FC (h.set (p + 10) (.inl (1, 7, .inr (.inl ow)))) p (c.1, c.2.1, c.2.2.1, c.2.2.2.1, c.2.2.2.2.1, c.2.2.2.2.2.1, ow) := by
  obtain ⟨a0, a1, a2, ⟨f, a3, a4⟩, a5, a6, a7⟩ := F
  exact ⟨by rw [s_set_ne (by omega)]; exact a0, by rw [s_set_ne (by omega)]; exact a1, by rw [s_set_ne (by omega)]; exact a2, ⟨f, by rw [s_set_ne (by omega)]; exact a3, a4⟩, fun k hk => by rw [s_set_ne (by omega)]; exact a5 k hk, by rw [s_set_ne (by omega)]; exact a6, s_set_eq a7⟩
/-- nothing but a field has changed -/
def fE (p : Nat) (h h' : sHp) : Prop := h'.length = h.length ∧ ∀ q, (q < p ∨ p + 10 < q) → h'[q]? = h[q]?
theorem fE_rfl {p : Nat} {h : sHp} : fE p h h := ⟨rfl, fun _ _ => rfl⟩
theorem fE_tr {p : Nat} {h h1 h2 : sHp} (a : fE p h h1) (b : fE p h1 h2) : fE p h h2 := ⟨b.1.trans a.1, fun q hq => (b.2 q hq).trans (a.2 q hq)⟩
theorem fE_set {p q : Nat} {h h1 : sHp} {x : va_E} (a : fE p h h1) (h0 : p ≤ q) (h1' : q ≤ p + 10) : fE p h (h1.set q x) := ⟨by rw [List.length_set]; exact a.1, fun q' hq => by rw [s_set_ne (by omega)]; exact a.2 q' hq⟩

theorem s_squares {d : Nat} {h : sHp} {p : Nat} {c : CF} (F : FC h p c) : sDo (d + 1) 21 [.ref p] h (fun r h' => h' = h ∧ r = some (.int (c.1 0 * c.1 1))) := by
  have a0 := F.1
  refine sDo_of (d := d) (nL := 1) (L := [some (.ref p)]) rfl rfl ?_
  refine g_aload_n (i := 0) rfl rfl ?_
  refine g_getfield (v := .int (c.1 0)) rfl a0 (by decide) rfl ?_
  refine g_aload_n (i := 0) rfl rfl ?_
  refine g_getfield (v := .int (c.1 1)) rfl a0 (by decide) rfl ?_
  refine g_imul rfl ?_
  refine g_ireturn (ty := .int) rfl rfl rfl ?_
  exact ⟨rfl, rfl⟩
theorem s_isHeir3 {d : Nat} {h : sHp} {p : Nat} {c : CF} {i b : Int32} (F : FC h p c) (hb : b = if 0 ≤ i.toInt ∧ i.toInt < (c.1 11).toInt ∧ i.toInt < 5 then 1 else 0) : sDo (d + 1) 23 [.ref p, .int i] h (fun r h' => h' = h ∧ r = some (.int b)) := by
  have a0 := F.1
  have e0 : (0 : Int32).toInt = 0 := rfl
  have e5 : (Int32.ofInt 5).toInt = 5 := rfl
  refine sDo_of (d := d) (nL := 2) (L := [some (.ref p), some (.int i)]) rfl rfl ?_
  refine g_iload_n (i := 1) rfl rfl ?_
  refine g_if_lt 21 rfl rfl (fun c1 => ?_) (fun c1 => ?_)
  · skip
    rw [i_lt, e0] at c1
    refine g_iconst (n := 0) rfl ?_
    refine g_ireturn (ty := .boolean) rfl rfl (by decide) ?_
    rw [hb, if_neg (by omega)]; exact ⟨rfl, rfl⟩
  · skip
    rw [i_lt, e0] at c1
    refine g_iload_n (i := 1) rfl rfl ?_
    refine g_aload_n (i := 0) rfl rfl ?_
    refine g_getfield (v := .int (c.1 11)) rfl a0 (by decide) rfl ?_
    refine g_icmp_ge 21 rfl rfl (fun c2 => ?_) (fun c2 => ?_)
    · skip
      rw [i_le] at c2
      refine g_iconst (n := 0) rfl ?_
      refine g_ireturn (ty := .boolean) rfl rfl (by decide) ?_
      rw [hb, if_neg (by omega)]; exact ⟨rfl, rfl⟩
    · skip
      rw [i_le] at c2
      refine g_iload_n (i := 1) rfl rfl ?_
      refine g_iconst (n := 5) rfl ?_
      refine g_icmp_ge 21 rfl rfl (fun c3 => ?_) (fun c3 => ?_)
      · skip
        rw [i_le, e5] at c3
        refine g_iconst (n := 0) rfl ?_
        refine g_ireturn (ty := .boolean) rfl rfl (by decide) ?_
        rw [hb, if_neg (by omega)]; exact ⟨rfl, rfl⟩
      · skip
        rw [i_le, e5] at c3
        refine g_iconst (n := 1) rfl ?_
        refine g_goto 22 rfl rfl ?_
        refine g_ireturn (ty := .boolean) rfl rfl (by decide) ?_
        rw [hb, if_pos (by omega)]; exact ⟨rfl, rfl⟩
theorem s_setPlace {d : Nat} {h : sHp} {p K : Nat} {c : CF} {wh v : Int32} (F : FC h p c) (hK : K ≤ 3) (hw : wh.toInt = K) : sDo (d + 1) 35 [.ref p, .int wh, .int v] h (fun r h' => r = none ∧ h' = h.set p (fO p (upd c.1 (7 + K) v) c.2.1)) := by
  have a0 := F.1
  have hF : sFk 35 1 = some (.tableswitch 51 0 2 #[27, 35, 43]) := rfl
  refine sDo_of (d := d) (nL := 3) (L := [some (.ref p), some (.int wh), some (.int v)]) rfl rfl ?_
  refine g_iload_n (i := 1) rfl rfl ?_
  match K, hK, hw with
  | 0, _, hw =>
    refine go_jmp (pc1 := 28) (st1 := []) hF rfl ?_ ?_
    · show (if wh.toInt < 0 ∨ 2 < wh.toInt then _ else (match #[(27 : Int), 35, 43][(wh.toInt - 0).toNat]? with
        | some off => (sTgt 1 off).map (fun t => (t, ([] : List Value)))
        | none => none)) = _
      rw [if_neg (by omega), show (wh.toInt - 0).toNat = 0 by omega]; rfl
    · skip
      refine g_aload_n (i := 0) rfl rfl ?_
      refine g_iload_n (i := 2) rfl rfl ?_
      refine g_putfield (h1 := h.set p (fO p (upd c.1 (7 + 0) v) c.2.1)) rfl a0 (by decide) (Nat.le_of_ble_eq_true rfl) rfl rfl ?_
      refine g_goto 57 rfl rfl ?_
      refine g_return rfl rfl ?_
      exact ⟨rfl, rfl⟩
  | 1, _, hw =>
    refine go_jmp (pc1 := 36) (st1 := []) hF rfl ?_ ?_
    · show (if wh.toInt < 0 ∨ 2 < wh.toInt then _ else (match #[(27 : Int), 35, 43][(wh.toInt - 0).toNat]? with
        | some off => (sTgt 1 off).map (fun t => (t, ([] : List Value)))
        | none => none)) = _
      rw [if_neg (by omega), show (wh.toInt - 0).toNat = 1 by omega]; rfl
    · skip
      refine g_aload_n (i := 0) rfl rfl ?_
      refine g_iload_n (i := 2) rfl rfl ?_
      refine g_putfield (h1 := h.set p (fO p (upd c.1 (7 + 1) v) c.2.1)) rfl a0 (by decide) (Nat.le_of_ble_eq_true rfl) rfl rfl ?_
      refine g_goto 57 rfl rfl ?_
      refine g_return rfl rfl ?_
      exact ⟨rfl, rfl⟩
  | 2, _, hw =>
    refine go_jmp (pc1 := 44) (st1 := []) hF rfl ?_ ?_
    · show (if wh.toInt < 0 ∨ 2 < wh.toInt then _ else (match #[(27 : Int), 35, 43][(wh.toInt - 0).toNat]? with
        | some off => (sTgt 1 off).map (fun t => (t, ([] : List Value)))
        | none => none)) = _
      rw [if_neg (by omega), show (wh.toInt - 0).toNat = 2 by omega]; rfl
    · skip
      refine g_aload_n (i := 0) rfl rfl ?_
      refine g_iload_n (i := 2) rfl rfl ?_
      refine g_putfield (h1 := h.set p (fO p (upd c.1 (7 + 2) v) c.2.1)) rfl a0 (by decide) (Nat.le_of_ble_eq_true rfl) rfl rfl ?_
      refine g_goto 57 rfl rfl ?_
      refine g_return rfl rfl ?_
      exact ⟨rfl, rfl⟩
  | 3, _, hw =>
    refine go_jmp (pc1 := 52) (st1 := []) hF rfl ?_ ?_
    · show (if wh.toInt < 0 ∨ 2 < wh.toInt then (sTgt 1 51).map (fun t => (t, ([] : List Value))) else _) = _
      rw [if_pos (by omega)]; rfl
    · skip
      refine g_aload_n (i := 0) rfl rfl ?_
      refine g_iload_n (i := 2) rfl rfl ?_
      refine g_putfield (h1 := h.set p (fO p (upd c.1 (7 + 3) v) c.2.1)) rfl a0 (by decide) (Nat.le_of_ble_eq_true rfl) rfl rfl ?_
      refine g_return rfl rfl ?_
      exact ⟨rfl, rfl⟩
  | k + 4, hK, _ => exact absurd hK (by omega)
def tenF (w : Nat → Int32) (k : Nat) : Nat → Int32 := fun i => if i < k then (Int8.ofInt 10).toInt32 else w i
theorem tenF_0 (w : Nat → Int32) : tenF w 0 = w := funext fun i => if_neg (Nat.not_lt_zero i)
theorem tenF_s (w : Nat → Int32) (k : Nat) : upd (tenF w k) k (Int8.ofInt 10).toInt32 = tenF w (k + 1) := funext fun i => by
  unfold upd tenF
  by_cases h : i = k
  · rw [if_pos h, if_pos (show i < k + 1 by omega)]
  · rw [if_neg h]
    by_cases h2 : i < k
    · rw [if_pos h2, if_pos (show i < k + 1 by omega)]
    · rw [if_neg h2, if_neg (show ¬ i < k + 1 by omega)]
theorem s_addHeir_go {d : Nat} {h : sHp} {p H : Nat} {I : Nat → Int32} {G : Nat → Int64} {f : Nat → Option Nat} {w : Nat → Int32} {share : Int32} {Q : Option Value → sHp → Prop} (a0 : h[p]? = some (fO p I G)) (a3 : h[p + 3]? = some (.inl (5, 5, .inr (.inr (.inr (.inr f)))))) (a4 : ∀ k, k < 5 → f k = some (p + 4 + k)) (a5 : h[p + 4 + H]? = some (.inl (0, 6, .inl w))) (hH : H < 5) (hI : I 11 = Int32.ofNat H) (hQ : ∀ x : Int32, sGo none 36 d 64 [some (.ref p), some (.int share), some (.int x)] [] (h.set (p + 4 + H) (.inl (0, 6, .inl (tenF w 6)))) Q) : ∀ (N : Nat) (k : Nat), k ≤ 6 → 6 - k < N → sGo none 36 d 39 [some (.ref p), some (.int share), some (.int (Int32.ofNat k))] [] (h.set (p + 4 + H) (.inl (0, 6, .inl (tenF w k)))) Q := by
  have eH := ofN_toInt (n := H) (by omega)
  have e6 : (Int8.ofInt 6).toInt32.toInt = 6 := rfl
  have fH : va_rf (f (I 11).toNatClampNeg) = .ref (p + 4 + H) := by rw [hI, i_nat eH, a4 H hH]; rfl
  have e11 : (I 11).toInt = H := by rw [hI, eH]
  intro N
  induction N with
  | zero => intro k _ hl; omega
  | succ N ih =>
    intro k hk hl
    have ek := ofN_toInt (n := k) (by omega)
    have a0' : (h.set (p + 4 + H) (.inl (0, 6, .inl (tenF w k))))[p]? = some (fO p I G) := by rw [s_set_ne (by omega)]; exact a0
    have a3' : (h.set (p + 4 + H) (.inl (0, 6, .inl (tenF w k))))[p + 3]? = some (.inl (5, 5, .inr (.inr (.inr (.inr f))))) := by rw [s_set_ne (by omega)]; exact a3
    refine g_iload_n (i := 2) rfl rfl ?_
    refine g_bipush (n := 6) rfl ?_
    refine g_icmp_ge 64 rfl rfl (fun hc => ?_) (fun hc => ?_)
    · skip
      rw [i_le, e6, ek] at hc
      have hk6 : k = 6 := by omega
      rw [hk6]
      exact hQ _
    · skip
      rw [i_le, e6, ek] at hc
      refine g_aload_n (i := 0) rfl rfl ?_
      refine g_getfield (v := .ref (p + 3)) rfl a0' (by decide) rfl ?_
      refine g_aload_n (i := 0) rfl rfl ?_
      refine g_getfield (v := .int (I 11)) rfl a0' (by decide) rfl ?_
      refine g_aaload rfl a3' (by decide) (i_in (by omega) (by omega)) ?_
      rw [fH]
      refine g_iload_n (i := 2) rfl rfl ?_
      refine g_bipush (n := 10) rfl ?_
      refine g_iastore (h1 := h.set (p + 4 + H) (.inl (0, 6, .inl (tenF w (k + 1))))) rfl (s_set_eq a5) (i_in (by omega) (by omega)) (by rw [i_nat ek, List.set_set]; exact congrArg (fun e => h.set (p + 4 + H) (.inl (0, 6, .inl e))) (tenF_s w k)) ?_
      refine g_iinc (i := 2) (L1 := [some (.ref p), some (.int share), some (.int ((Int32.ofNat k) + Int32.ofInt 1))]) rfl rfl rfl ?_
      rw [ofN_add (by omega)]
      refine g_goto 39 rfl rfl ?_
      exact ih (k + 1) (by omega) (by omega)
/-- one more heir -/
def cfHeir (H : Nat) (share : Int32) (c : CF) : CF := (upd c.1 11 (Int32.ofNat (H + 1)), c.2.1, c.2.2.1, upd c.2.2.2.1 H share, (fun k => if k = H then tenF (c.2.2.2.2.1 H) 6 else c.2.2.2.2.1 k), upd c.2.2.2.2.2.1 H 0, c.2.2.2.2.2.2)
theorem s_addHeir {d : Nat} {h : sHp} {p H : Nat} {c : CF} {share : Int32} (F : FC h p c) (hI : c.1 11 = Int32.ofNat H) (hH : H < 5) : sDo (d + 1) 36 [.ref p, .int share] h (fun r h' => r = some (.int (Int32.ofNat H)) ∧ FC h' p (cfHeir H share c) ∧ fE p h h') := by
  obtain ⟨I, G, so, sh, wo, fo, ow⟩ := c
  have hI : I 11 = Int32.ofNat H := hI
  have Fc := F
  obtain ⟨a0, a1, a2, ⟨f, a3, a4⟩, a5, a6, a7⟩ := F
  have eH := ofN_toInt (n := H) (by omega)
  have e11 : (I 11).toInt = H := by rw [hI, eH]
  have e0 : (0 : Int32).toInt = 0 := rfl
  have e5 : (Int32.ofInt 5).toInt = 5 := rfl
  have a0 : h[p]? = some (fO p I G) := a0
  refine sDo_of (d := d) (nL := 3) (L := [some (.ref p), some (.int share), none]) rfl rfl ?_
  refine g_aload_n (i := 0) rfl rfl ?_
  refine g_getfield (v := .int (I 11)) rfl a0 (by decide) rfl ?_
  refine g_if_lt 15 rfl rfl (fun hc => absurd hc (by rw [i_lt, e0]; omega)) (fun _ => ?_)
  refine g_aload_n (i := 0) rfl rfl ?_
  refine g_getfield (v := .int (I 11)) rfl a0 (by decide) rfl ?_
  refine g_iconst (n := 5) rfl ?_
  refine g_icmp_lt 17 rfl rfl (fun _ => ?_) (fun hc => absurd hc (by rw [i_lt, e5]; omega))
  refine g_aload_n (i := 0) rfl rfl ?_
  refine g_getfield (v := .ref (p + 2)) rfl a0 (by decide) rfl ?_
  refine g_aload_n (i := 0) rfl rfl ?_
  refine g_getfield (v := .int (I 11)) rfl a0 (by decide) rfl ?_
  refine g_iload_n (i := 1) rfl rfl ?_
  refine g_iastore (h1 := h.set (p + 2) (.inl (0, 5, .inl (upd sh H share)))) rfl a2 (i_in (by omega) (by omega)) (by rw [i_nat e11]) ?_
  have F1 := FC_2 (sh := upd sh H share) Fc
  have b0 : (h.set (p + 2) (.inl (0, 5, .inl (upd sh H share))))[p]? = some (fO p I G) := F1.1
  refine g_aload_n (i := 0) rfl rfl ?_
  refine g_getfield (v := .ref (p + 9)) rfl b0 (by decide) rfl ?_
  refine g_aload_n (i := 0) rfl rfl ?_
  refine g_getfield (v := .int (I 11)) rfl b0 (by decide) rfl ?_
  refine g_iconst (n := 0) rfl ?_
  refine g_bastore (h1 := ((h.set (p + 2) (.inl (0, 5, .inl (upd sh H share)))).set (p + 9) (.inl (2, 5, .inl (upd fo H 0))))) rfl F1.2.2.2.2.2.1 (Or.inl rfl) (i_in (by omega) (by omega)) (by rw [i_nat e11]; rfl) ?_
  have F2 := FC_9 (fo := upd fo H 0) F1
  have c0 : ((h.set (p + 2) (.inl (0, 5, .inl (upd sh H share)))).set (p + 9) (.inl (2, 5, .inl (upd fo H 0))))[p]? = some (fO p I G) := F2.1
  have F2c := F2
  obtain ⟨-, -, -, ⟨f', b3, b4⟩, b5, -⟩ := F2c
  refine g_iconst (n := 0) rfl ?_
  refine g_istore_n (i := 2) (L1 := [some (.ref p), some (.int share), some (.int (Int32.ofInt 0))]) rfl (Nat.le_of_ble_eq_true rfl) rfl ?_
  have key := s_addHeir_go (d := d) (share := share) (Q := fun r h' => r = some (.int (Int32.ofNat H)) ∧ FC h' p (cfHeir H share (I, G, so, sh, wo, fo, ow)) ∧ fE p h h') c0 b3 b4 (b5 H hH) hH hI (fun x => ?_) 7 0 (by decide) (by decide)
  · rw [tenF_0, s_set_self (b5 H hH)] at key
    exact key
  · skip
    have F3 := FC_4 (w := tenF (wo H) 6) F2 hH
    have d0 : (((h.set (p + 2) (.inl (0, 5, .inl (upd sh H share)))).set (p + 9) (.inl (2, 5, .inl (upd fo H 0)))).set (p + 4 + H) (.inl (0, 6, .inl (tenF (wo H) 6))))[p]? = some (fO p I G) := F3.1
    refine g_aload_n (i := 0) rfl rfl ?_
    refine g_dup rfl rfl ?_
    refine g_getfield (v := .int (I 11)) rfl d0 (by decide) rfl ?_
    refine g_iconst (n := 1) rfl ?_
    refine g_iadd rfl ?_
    rw [hI, ofN_add (by omega)]
    refine g_putfield (h1 := (((h.set (p + 2) (.inl (0, 5, .inl (upd sh H share)))).set (p + 9) (.inl (2, 5, .inl (upd fo H 0)))).set (p + 4 + H) (.inl (0, 6, .inl (tenF (wo H) 6)))).set p (fO p (upd I 11 (Int32.ofNat (H + 1))) G)) rfl d0 (by decide) (Nat.le_of_ble_eq_true rfl) rfl rfl ?_
    have F4 := FC_0 (I := upd I 11 (Int32.ofNat (H + 1))) (G := G) F3
    have g0 := F4.1
    refine g_aload_n (i := 0) rfl rfl ?_
    refine g_getfield (v := .int ((upd I 11 (Int32.ofNat (H + 1))) 11)) rfl g0 (by decide) rfl ?_
    refine g_iconst (n := 1) rfl ?_
    have eq : (upd I 11 (Int32.ofNat (H + 1)) 11) - Int32.ofInt 1 = Int32.ofNat H := by
      show Int32.ofNat (H + 1) - Int32.ofInt 1 = Int32.ofNat H
      rw [← ofN_add (by omega), Int32.add_sub_cancel]
    refine g_isub rfl ?_
    rw [eq]
    refine g_ireturn (ty := .int) rfl rfl rfl ?_
    exact ⟨rfl, F4, fE_set (fE_set (fE_set (fE_set fE_rfl (by omega) (by omega)) (by omega) (by omega)) (by omega) (by omega)) (by omega) (by omega)⟩
