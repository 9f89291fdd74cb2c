/-! ===== field of the class ===== -/
theorem s_init64E {d : Nat} {h : sHp} {rp tp : Nat} {fs : List Value} (hd : 1 ≤ d) (hr : h[rp]? = some (.inr (6, fs))) (hl : fs.length = 4) : sDo d 64 [.ref rp, .ref tp, .ref 27] h (fun r h' => r = none ∧ h' = h.set rp (rd tp (Int32.ofInt (-1)) 0)) := by
  match fs, hl, hr with
  | [v0, v1, v2, v3], _, hr =>
    have at_ : ∀ l, (h.set rp (.inr (6, l)))[rp]? = some (.inr (6, l)) := fun _ => s_set_eq hr
    refine sDo_of1 (nL := 3) (L := [some (.ref rp), some (.ref tp), some (.ref 27)]) hd rfl rfl ?_
    refine g_aload_n (i := 0) rfl rfl ?_
    refine g_objinit rfl (Nat.le_of_ble_eq_true rfl) ?_
    refine g_aload_n (i := 0) rfl rfl ?_
    refine g_iconst (n := (-1)) rfl ?_
    refine g_putfield (h1 := h.set rp (.inr (6, [(.int (Int32.ofInt (-1))), (v1), (v2), (v3)]))) rfl hr (by decide) (Nat.le_of_ble_eq_true rfl) rfl rfl ?_
    refine g_aload_n (i := 0) rfl rfl ?_
    refine g_iconst (n := 0) rfl ?_
    refine g_putfield (h1 := h.set rp (.inr (6, [(.int (Int32.ofInt (-1))), (v1), (v2), (.int (Int32.ofInt 0))]))) rfl (at_ _) (by decide) (Nat.le_of_ble_eq_true rfl) rfl (by rw [List.set_set]; rfl) ?_
    refine g_aload_n (i := 0) rfl rfl ?_
    refine g_aload_n (i := 1) rfl rfl ?_
    refine g_putfield (h1 := h.set rp (.inr (6, [(.int (Int32.ofInt (-1))), (.ref tp), (v2), (.int (Int32.ofInt 0))]))) rfl (at_ _) (by decide) (Nat.le_of_ble_eq_true rfl) rfl (by rw [List.set_set]; rfl) ?_
    refine g_aload_n (i := 0) rfl rfl ?_
    refine g_aload_n (i := 2) rfl rfl ?_
    refine g_putfield (h1 := h.set rp (.inr (6, [(.int (Int32.ofInt (-1))), (.ref tp), (.ref 27), (.int (Int32.ofInt 0))]))) rfl (at_ _) (by decide) (Nat.le_of_ble_eq_true rfl) rfl (by rw [List.set_set]; rfl) ?_
    refine g_return rfl rfl ?_
    exact ⟨rfl, rfl⟩
theorem s_readItems {d : Nat} {h : sHp} {rp tp ep n : Nat} {ot flt : Int32} {el : Nat → Int64} {c : CF} {s : Sg} (hd : 8 ≤ d) (hn : n ≤ 100) (h1 : 79 ≤ rp) (h2 : 44 ≤ tp ∧ tp < 60) (h3 : 44 ≤ ep ∧ ep < 60) (hs : sgI c s) (hr : h[rp]? = some (rd tp flt 0)) (ht : h[tp]? = some (.inr (7, [.int ot, .int (Int32.ofNat n), .ref ep]))) (he : h[ep]? = some (.inl (1, 100, .inr (.inl el)))) (F : FC h 27 c) : sDo d 65 [.ref rp] h (qIt rp tp flt h c 0 (itsS (tx el n) n 101 s 0)) := by
  have key := s_readItems_go (d := d - 1) (h0 := h) (flt := flt) hn h1 h2 h3 (by omega) 101 0 0 h c s (by omega) (by omega) (by omega) hs hr ht he F gE_rfl
  refine sDo_of1 (nL := 2) (L := [some (.ref rp), none]) (by omega) rfl rfl ?_
  refine g_iconst (n := 0) rfl ?_
  refine g_istore_n (i := 1) (L1 := [some (.ref rp), some (.int (Int32.ofInt 0))]) rfl (Nat.le_of_ble_eq_true rfl) rfl ?_
  exact key
/-- what field leaves: the parts that it doesn't touch -/
def fdE (h h' : sHp) (lo : Nat) : Prop := h.length ≤ h'.length ∧ ∀ q, (q < lo ∨ 15 < q) → (q < 27 ∨ 37 < q) → q ≠ 0 → q ≠ 43 → q < h.length → h'[q]? = h[q]?
def qF11 (h : sHp) (c cd : CF) (ik : Int32) (q : Option (Nat × List Act)) (r : Option Value) (h' : sHp) : Prop := match q with
  | some (k, as) => r = some (.int (Int32.ofNat k)) ∧ FC h' 5 (cfBecome (as.foldl cfDo (cfBecome c cd)) c) ∧ h'[0]? = some (cO ik (-1)) ∧ fdE h h' 5
  | none => r = some (.int (-6)) ∧ (∃ tf, h'[0]? = some (cO ik tf)) ∧ fdE h h' 16
theorem s_field11 {d : Nat} {h : sHp} {ik tf : Int32} {R : Nat → Int32} {c cd : CF} {f : Nat → Option Nat} {S n : Nat} {x ot : Int32} {el : Nat → Int64} {s : Sg} (hd : 9 ≤ d) (h79 : 79 ≤ h.length) (h0 : h[0]? = some (cO ik tf)) (hR : h[43]? = some (rFc R)) (F : FC h 5 c) (Fd : FC h 27 cd) (fb : ∀ k, k < 5 → c.2.2.2.2.2.1 k = 0 ∨ c.2.2.2.2.2.1 k = 1) (fbd : ∀ as : List Act, ∀ k, k < 5 → (as.foldl cfDo (cfBecome c cd)).2.2.2.2.2.1 k = 0 ∨ (as.foldl cfDo (cfBecome c cd)).2.2.2.2.2.1 k = 1) (hn : n ≤ 100) (hS : S < 8) (hx : x.toInt = S) (h1 : h[1]? = some (.inl (3, 8, .inr (.inr (.inr (.inr f)))))) (hf : f S = some (44 + 2 * S)) (ht : h[44 + 2 * S]? = some (.inr (7, [.int ot, .int (Int32.ofNat n), .ref (45 + 2 * S)]))) (he : h[45 + 2 * S]? = some (.inl (1, 100, .inr (.inl el)))) (hs : sgI (cfBecome c cd) s) (hno : sDo (d - 1) 161 [.ref 0, .int x] h (fun r h' => h' = h ∧ r = some (.int 0))) : sDo d 122 [.ref 0, .int x] h (qF11 h c cd ik (itsS (tx el n) n 101 s 0)) := by
  refine sDo_of1 (nL := 5) (L := [some (.ref 0), some (.int x), none, none, none]) (by omega) rfl rfl ?_
  refine g_aload_n (i := 0) rfl rfl ?_
  refine g_iload_n (i := 1) rfl rfl ?_
  refine g_virt1 (Qc := fun r h' => h' = h ∧ r = some (.int 0)) rfl (by decide) rfl h0 rfl (Nat.le_of_ble_eq_true rfl) (hno) (fun r h hq9 => ?_)
  obtain ⟨rfl, rfl⟩ := hq9
  refine g_istore_n (i := 2) (L1 := [some (.ref 0), some (.int x), some (.int 0), none, none]) rfl (Nat.le_of_ble_eq_true rfl) rfl ?_
  refine g_iload_n (i := 2) rfl rfl ?_
  refine g_if_eq 16 rfl rfl (fun _ => ?_) (fun hc => absurd hc (by decide))
  refine g_aload_n (i := 0) rfl rfl ?_
  refine g_getfield (v := .ref 27) rfl h0 (by decide) rfl ?_
  refine g_aload_n (i := 0) rfl rfl ?_
  refine g_getfield (v := .ref 5) rfl h0 (by decide) rfl ?_
  refine g_virt1 (Qc := fun r h' => r = none ∧ FC h' 27 (cfBecome c cd) ∧ fE 27 h h') rfl (by decide) rfl Fd.1 rfl (Nat.le_of_ble_eq_true rfl) (sDo_up (d := 1) (by omega) (s_become (d := 0) Fd F (by omega) fb)) (fun r h9 hq9 => ?_)
  obtain ⟨rfl, q1, q2⟩ := hq9
  have e0 := (q2.2 0 (by omega)).trans h0
  have e1 := (q2.2 1 (by omega)).trans h1
  have l9 := q2.1
  have fS : va_rf (f x.toNatClampNeg) = .ref (44 + 2 * S) := by rw [i_nat hx, hf]; rfl
  have a1 : (h9 ++ [(Sum.inr (6, sDef 6) : va_E)])[1]? = some (.inl (3, 8, .inr (.inr (.inr (.inr f))))) := s_app_lt e1
  have a0 : (h9 ++ [(Sum.inr (6, sDef 6) : va_E)])[0]? = some (cO ik tf) := s_app_lt e0
  refine g_new rfl (by decide) ?_
  refine g_dup rfl rfl ?_
  refine g_aload_n (i := 0) rfl rfl ?_
  refine g_getfield (v := .ref 1) rfl a0 (by decide) rfl ?_
  refine g_iload_n (i := 1) rfl rfl ?_
  refine g_aaload rfl a1 (by decide) (i_in (by omega) (by omega)) ?_
  rw [fS]
  refine g_aload_n (i := 0) rfl rfl ?_
  refine g_getfield (v := .ref 27) rfl a0 (by decide) rfl ?_
  refine g_init2 (Qc := fun r h' => r = none ∧ h' = List.set (h9 ++ [(Sum.inr (6, sDef 6) : va_E)] : sHp) h9.length (rd (44 + 2 * S) (Int32.ofInt (-1)) 0)) rfl (by decide) rfl (s_app_at _ _) (Nat.le_of_ble_eq_true rfl) (s_init64E (by omega) (s_app_at _ _) rfl) (fun r h8 hq9 => ?_)
  obtain ⟨rfl, rfl⟩ := hq9
  rw [s_app_set]
  have G1 : FC (h9 ++ [rd (44 + 2 * S) (Int32.ofInt (-1)) 0]) 27 (cfBecome c cd) := by
    obtain ⟨b0, b1, b2, ⟨w, b3, b4⟩, b5, b6, b7⟩ := q1
    exact ⟨s_app_lt b0, s_app_lt b1, s_app_lt b2, ⟨w, s_app_lt b3, b4⟩, fun k hk => s_app_lt (b5 k hk), s_app_lt b6, s_app_lt b7⟩
  have r1 : (h9 ++ [rd (44 + 2 * S) (Int32.ofInt (-1)) 0])[h9.length]? = some (rd (44 + 2 * S) (Int32.ofInt (-1)) 0) := s_app_at _ _
  have t1 : (h9 ++ [rd (44 + 2 * S) (Int32.ofInt (-1)) 0])[44 + 2 * S]? = some (.inr (7, [.int ot, .int (Int32.ofNat n), .ref (45 + 2 * S)])) := s_app_lt ((q2.2 _ (by omega)).trans ht)
  have t2 : (h9 ++ [rd (44 + 2 * S) (Int32.ofInt (-1)) 0])[45 + 2 * S]? = some (.inl (1, 100, .inr (.inl el))) := s_app_lt ((q2.2 _ (by omega)).trans he)
  have hit := s_readItems (d := d - 1) (by omega) hn (by omega) (by omega) (by omega) hs r1 t1 t2 G1
  have fdl : ∀ q, q < h.length → (q < 27 ∨ 37 < q) → (h9 ++ [rd (44 + 2 * S) (Int32.ofInt (-1)) 0])[q]? = h[q]? := fun q hq hq2 => by
    rw [List.getElem?_append_left (by omega)]; exact q2.2 q hq2
  have p0 := (fdl 0 (by omega) (by omega)).trans h0
  have p43 := (fdl 43 (by omega) (by omega)).trans hR
  have ll : (h9 ++ [rd (44 + 2 * S) (Int32.ofInt (-1)) 0]).length = h.length + 1 := by rw [List.length_append]; show h9.length + 1 = _; omega
  have F9 : FC (h9 ++ [rd (44 + 2 * S) (Int32.ofInt (-1)) 0]) 5 c := by
    obtain ⟨b0, b1, b2, ⟨w, b3, b4⟩, b5, b6, b7⟩ := FC_fr F q2 (by omega)
    exact ⟨s_app_lt b0, s_app_lt b1, s_app_lt b2, ⟨w, s_app_lt b3, b4⟩, fun k hk => s_app_lt (b5 k hk), s_app_lt b6, s_app_lt b7⟩
  generalize h9 ++ [rd (44 + 2 * S) (Int32.ofInt (-1)) 0] = h3 at G1 r1 t1 t2 hit fdl p0 p43 ll F9 ⊢
  refine g_astore_n (i := 3) (L1 := [some (.ref 0), some (.int x), some (.int 0), some (.ref h9.length), none]) rfl (Nat.le_of_ble_eq_true rfl) rfl ?_
  refine g_aload_n (i := 3) rfl rfl ?_
  refine g_virt0 rfl (by decide) rfl r1 rfl (Nat.le_of_ble_eq_true rfl) hit (fun r h7 hq => ?_)
  cases hi : itsS (tx el n) n 101 s 0 with
  | none =>
    rw [hi] at hq
    obtain ⟨⟨y, rfl⟩, Fl, A1, hF1, hr1, G2⟩ := hq
    have o0 := (G2.2 0 (by omega) (by omega)).trans p0
    have o43 := (G2.2 43 (by omega) (by omega)).trans p43
    have eF := ofN_toInt (n := Fl) (by omega)
    have em : (Int32.ofInt (-1)).toInt = -1 := rfl
    refine g_istore (i := 4) (L1 := [some (.ref 0), some (.int x), some (.int 0), some (.ref h9.length), some (.int y)]) rfl (Nat.le_of_ble_eq_true rfl) rfl ?_
    refine g_aload_n (i := 0) rfl rfl ?_
    refine g_aload_n (i := 3) rfl rfl ?_
    refine g_getfield (v := .int (Int32.ofNat Fl)) rfl hr1 (by decide) rfl ?_
    refine g_putfield (h1 := h7.set 0 (cO ik (Int32.ofNat Fl))) rfl o0 (by decide) (Nat.le_of_ble_eq_true rfl) rfl rfl ?_
    have z0 : (h7.set 0 (cO ik (Int32.ofNat Fl)))[0]? = some (cO ik (Int32.ofNat Fl)) := s_set_eq o0
    refine g_aload_n (i := 0) rfl rfl ?_
    refine g_getfield (v := .int (Int32.ofNat Fl)) rfl z0 (by decide) rfl ?_
    refine g_iconst (n := (-1)) rfl ?_
    refine g_icmp_eq 74 rfl rfl (fun hc => absurd hc (by intro z; rw [z, em] at eF; omega)) (fun _ => ?_)
    refine g_aload_n (i := 0) rfl rfl ?_
    refine g_bipush (n := (-6)) rfl ?_
    refine g_virt1 (Qc := fun r h' => r = some (.int (-6)) ∧ h' = (h7.set 0 (cO ik (Int32.ofNat Fl))).set 43 (rFc (bump R 6))) rfl (by decide) rfl z0 rfl (Nat.le_of_ble_eq_true rfl) (s_refuse2 (X := 6) (R := R) (by omega) z0 (by rw [s_set_ne (by omega)]; exact o43) rfl (by decide)) (fun r h6 hq9 => ?_)
    obtain ⟨rfl, rfl⟩ := hq9
    refine g_ireturn (ty := .int) rfl rfl rfl ?_
    refine ⟨rfl, ⟨_, by rw [s_set_ne (by omega)]; exact z0⟩, ?_, fun q e1 e2 e3 e4 e5 => ?_⟩
    · have := G2.1; rw [List.length_set, List.length_set]; omega
    · rw [s_set_ne (by omega), s_set_ne (by omega), G2.2 q (by omega) (by omega)]
      exact fdl q e5 (by omega)
  | some kb =>
    obtain ⟨k, as⟩ := kb
    rw [hi] at hq
    obtain ⟨rfl, ⟨A1, hr1⟩, G3, G2⟩ := hq
    have o0 := (G2.2 0 (by omega) (by omega)).trans p0
    refine g_istore (i := 4) (L1 := [some (.ref 0), some (.int x), some (.int 0), some (.ref h9.length), some (.int (Int32.ofNat (0 + k)))]) rfl (Nat.le_of_ble_eq_true rfl) rfl ?_
    refine g_aload_n (i := 0) rfl rfl ?_
    refine g_aload_n (i := 3) rfl rfl ?_
    refine g_getfield (v := .int (Int32.ofInt (-1))) rfl hr1 (by decide) rfl ?_
    refine g_putfield (h1 := h7.set 0 (cO ik (Int32.ofInt (-1)))) rfl o0 (by decide) (Nat.le_of_ble_eq_true rfl) rfl rfl ?_
    have z0 : (h7.set 0 (cO ik (Int32.ofInt (-1))))[0]? = some (cO ik (Int32.ofInt (-1))) := s_set_eq o0
    have G4 := FC_out (q := 0) (x := cO ik (Int32.ofInt (-1))) G3 (by omega)
    have F7 : FC h7 5 c := by
      obtain ⟨b0, b1, b2, ⟨w, b3, b4⟩, b5, b6, b7⟩ := F9
      have ge := G2.2
      exact ⟨(ge _ (by omega) (by omega)).trans b0, (ge _ (by omega) (by omega)).trans b1, (ge _ (by omega) (by omega)).trans b2, ⟨w, (ge _ (by omega) (by omega)).trans b3, b4⟩, fun k hk => (ge _ (by omega) (by omega)).trans (b5 k hk), (ge _ (by omega) (by omega)).trans b6, (ge _ (by omega) (by omega)).trans b7⟩
    have F8 := FC_out (q := 0) (x := cO ik (Int32.ofInt (-1))) F7 (by omega)
    refine g_aload_n (i := 0) rfl rfl ?_
    refine g_getfield (v := .int (Int32.ofInt (-1))) rfl z0 (by decide) rfl ?_
    refine g_iconst (n := (-1)) rfl ?_
    refine g_icmp_eq 74 rfl rfl (fun _ => ?_) (fun hc => absurd hc (by exact fun z => z rfl))
    refine g_aload_n (i := 0) rfl rfl ?_
    refine g_getfield (v := .ref 5) rfl z0 (by decide) rfl ?_
    refine g_aload_n (i := 0) rfl rfl ?_
    refine g_getfield (v := .ref 27) rfl z0 (by decide) rfl ?_
    refine g_virt1 (Qc := fun r h' => r = none ∧ FC h' 5 (cfBecome (as.foldl cfDo (cfBecome c cd)) c) ∧ fE 5 (h7.set 0 (cO ik (Int32.ofInt (-1)))) h') rfl (by decide) rfl F8.1 rfl (Nat.le_of_ble_eq_true rfl) (sDo_up (d := 1) (by omega) (s_become (d := 0) F8 G4 (by omega) (fbd as))) (fun r h6 hq9 => ?_)
    obtain ⟨rfl, w1, w2⟩ := hq9
    have z6 := (w2.2 0 (by omega)).trans z0
    refine g_iload (i := 4) rfl rfl ?_
    refine g_ireturn (ty := .int) rfl rfl rfl ?_
    refine ⟨by rw [Nat.zero_add], w1, z6, ?_, fun q e1 e2 e3 e4 e5 => ?_⟩
    · have := w2.1; have := G2.1; rw [List.length_set] at *; omega
    · rw [w2.2 q (by omega), s_set_ne (by omega), G2.2 q (by omega) (by omega)]
      exact fdl q e5 (by omega)
