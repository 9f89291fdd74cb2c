section
/-! ===== the trace: acts ===== -/
def pL (k : Nat) : List Int32 := match k with
  | 1 => [(Int8.ofInt 20).toInt32, (Int8.ofInt 10).toInt32]
  | 4 => [(Int8.ofInt 51).toInt32, (Int8.ofInt 20).toInt32, (Int8.ofInt 10).toInt32]
  | 5 => [(Int8.ofInt 20).toInt32, (Int8.ofInt 10).toInt32]
  | 6 => [(Int8.ofInt 70).toInt32, (Int8.ofInt 10).toInt32]
  | _ => [(Int8.ofInt 10).toInt32]
def wL (k : Nat) : List Int32 := match k with
  | 2 => (Int8.ofInt 30).toInt32 :: (Int8.ofInt 11).toInt32 :: pL 2
  | 4 => (Int8.ofInt 50).toInt32 :: (Int8.ofInt 11).toInt32 :: pL 4
  | 6 => (Int8.ofInt 71).toInt32 :: (Int8.ofInt 30).toInt32 :: (Int8.ofInt 11).toInt32 :: pL 6
  | k => (Int8.ofInt 11).toInt32 :: pL k
def hL (k : Nat) : List Int32 := match k with
  | 3 => (Int8.ofInt 40).toInt32 :: (Int8.ofInt 12).toInt32 :: (wL 3 ++ pL 3)
  | 5 => (Int8.ofInt 60).toInt32 :: (Int8.ofInt 12).toInt32 :: (wL 5 ++ pL 5)
  | k => (Int8.ofInt 12).toInt32 :: (wL k ++ pL k)
def pv (k : Nat) (s a x : Int32) : Int32 := match k with
  | 1 => x + s + a
  | 4 => -(x + s + a)
  | 5 => x + s + a
  | 6 => (x + s) * Int32.ofInt 2
  | _ => x + s
def wv (k : Nat) (s a x : Int32) : Int32 := match k with
  | 4 => pv 4 s a (x + Int32.ofInt 1) * Int32.ofInt 2
  | 6 => pv 6 s a (x - a) * Int32.ofInt 2 * Int32.ofInt 3
  | 2 => pv 2 s a x * Int32.ofInt 2 * Int32.ofInt 3
  | k => pv k s a x * Int32.ofInt 2
def hv (k : Nat) (s a x : Int32) : Int32 := match k with
  | 3 => (wv 3 s a x ^^^ pv 3 s a (x - a)) - s
  | 5 => (wv 5 s a x ^^^ pv 5 s a (x - a)) ^^^ Int32.ofInt 5
  | k => wv k s a x ^^^ pv k s a (x - a)
theorem ofN_toInt {n : Nat} (h : n < 1000) : (Int32.ofNat n).toInt = n := Int32.toInt_ofNat_of_lt (by omega)
theorem ofN_add {n : Nat} (h : n < 999) : Int32.ofNat n + Int32.ofInt 1 = Int32.ofNat (n + 1) := by
  have e1 : (Int32.ofInt 1).toInt = 1 := rfl
  apply Int32.toInt_inj.mp
  rw [i_add (by rw [ofN_toInt (by omega), e1]; omega) (by rw [ofN_toInt (by omega), e1]; omega), ofN_toInt (by omega), ofN_toInt (by omega), e1]
  omega
theorem app1_at {α : Type} {l : List α} {v : α} {i : Nat} {w : α} (h : (l ++ [v])[i]? = some w) : (i < l.length ∧ l[i]? = some w) ∨ (i = l.length ∧ w = v) := by
  by_cases c : i < l.length
  · rw [List.getElem?_append_left c] at h
    exact Or.inl ⟨c, h⟩
  · rw [List.getElem?_append_right (by omega)] at h
    by_cases c2 : i = l.length
    · rw [c2, Nat.sub_self] at h
      cases h
      exact Or.inr ⟨c2, rfl⟩
    · rw [List.getElem?_eq_none_iff.mpr (by show 1 ≤ i - l.length; omega)] at h
      cases h
def tC (h : sHp) (l : List Int32) : Prop := ∃ (so : Int32) (el : Nat → Int64), h[3]? = some (.inr (7, [.int so, .int (Int32.ofNat l.length), .ref 4])) ∧ h[4]? = some (.inl (1, 100, .inr (.inl el))) ∧ ∀ i v, l[i]? = some v → el i = v.toInt64
def tE (h h' : sHp) : Prop := ∃ c3 c4, h' = (h.set 4 c4).set 3 c3
theorem tE_tr {h h1 h2 : sHp} (a : tE h h1) (b : tE h1 h2) : tE h h2 := by
  obtain ⟨c3, c4, rfl⟩ := a
  obtain ⟨d3, d4, rfl⟩ := b
  refine ⟨d3, d4, ?_⟩
  rw [List.set_comm (i := 3) (j := 4) _ _ (by decide), List.set_set, List.set_set]
theorem tE_at {h h' : sHp} (a : tE h h') {p : Nat} (h3 : p ≠ 3) (h4 : p ≠ 4) : h'[p]? = h[p]? := by
  obtain ⟨c3, c4, rfl⟩ := a
  rw [s_set_ne (by omega), s_set_ne (by omega)]
theorem tE_len {h h' : sHp} (a : tE h h') : h'.length = h.length := by
  obtain ⟨c3, c4, rfl⟩ := a
  rw [List.length_set, List.length_set]
theorem s_append {d : Nat} {h : sHp} {l : List Int32} {v : Int32} (t : tC h l) (hl : l.length < 99) : sDo (d + 1) 87 [.ref 3, .int v] h (fun r h' => r = none ∧ tE h h' ∧ tC h' (l ++ [v])) := by
  obtain ⟨so, el, h3, h4, ht⟩ := t
  have en := ofN_toInt (n := l.length) (by omega)
  have e100 : (Int8.ofInt 100).toInt32.toInt = 100 := rfl
  refine sDo_of (d := d) (nL := 2) (L := [some (.ref 3), some (.int v)]) rfl rfl ?_
  refine g_aload_n (i := 0) rfl rfl ?_
  refine g_getfield (v := .int (Int32.ofNat l.length)) rfl h3 (by decide) rfl ?_
  refine g_bipush (n := 100) rfl ?_
  refine g_icmp_ge 30 rfl rfl (fun hc => absurd hc (by rw [i_le, e100, en]; omega)) (fun _ => ?_)
  refine g_aload_n (i := 0) rfl rfl ?_
  refine g_getfield (v := .ref 4) rfl h3 (by decide) rfl ?_
  refine g_aload_n (i := 0) rfl rfl ?_
  refine g_getfield (v := .int (Int32.ofNat l.length)) rfl h3 (by decide) rfl ?_
  refine g_iload_n (i := 1) rfl rfl ?_
  refine g_i2l rfl ?_
  refine g_lastore (h1 := h.set 4 (.inl (1, 100, .inr (.inl (vp_updL el l.length v.toInt64))))) rfl h4 (i_in (by omega) (by omega)) (by rw [i_nat en]) ?_
  have h3b : (h.set 4 (.inl (1, 100, .inr (.inl (vp_updL el l.length v.toInt64)))))[3]? = some (.inr (7, [.int so, .int (Int32.ofNat l.length), .ref 4])) := by rw [s_set_ne (by decide)]; exact h3
  refine g_aload_n (i := 0) rfl rfl ?_
  refine g_dup rfl rfl ?_
  refine g_getfield (v := .int (Int32.ofNat l.length)) rfl h3b (by decide) rfl ?_
  refine g_iconst (n := 1) rfl ?_
  refine g_iadd rfl ?_
  rw [ofN_add (by omega)]
  refine g_putfield (h1 := (h.set 4 (.inl (1, 100, .inr (.inl (vp_updL el l.length v.toInt64))))).set 3 (.inr (7, [.int so, .int (Int32.ofNat (l.length + 1)), .ref 4]))) rfl h3b (by decide) (Nat.le_of_ble_eq_true rfl) rfl rfl ?_
  refine g_return rfl rfl ?_
  refine ⟨rfl, ⟨_, _, rfl⟩, so, vp_updL el l.length v.toInt64, by rw [List.length_append]; exact s_set_eq h3b, by rw [s_set_ne (by decide)]; exact s_set_eq h4, fun i w hw => ?_⟩
  unfold vp_updL
  rcases app1_at hw with ⟨k1, k2⟩ | ⟨k1, k2⟩
  · rw [if_neg (by omega)]
    exact ht i w k2
  · rw [if_pos k1, k2]
/-- a body of the class: value and trace -/
def bB (d k p ci : Nat) (s c : Int32) (val : Int32 → Int32) (L : List Int32) : Prop := ∀ (h : sHp) (l : List Int32) (x : Int32), h[p]? = some (.inr (ci, cutFs s c)) → tC h l → l.length + L.length ≤ 60 → sDo d k [.ref p, .int x] h (fun r h' => r = some (.int (val x)) ∧ tE h h' ∧ tC h' (l ++ L))
theorem ap_as {l L : List Int32} {v : Int32} {h : sHp} (t : tC h (l ++ [v] ++ L)) : tC h (l ++ (v :: L)) := by
  rw [List.append_assoc] at t
  exact t
theorem m13 {d p ci : Nat} {s c : Int32} (hc : ci ∈ bCutL) (hp3 : 79 ≤ p) : bB (d + 2) 13 p ci s c (fun x => x + s) [(Int8.ofInt 10).toInt32] := by
  obtain ⟨hg, h11, -⟩ := cut_ty hc
  intro h l x hp t hl
  obtain ⟨so0, el0, h3, -⟩ := id t
  refine sDo_of (d := d + 1) (nL := 2) (L := [some (.ref p), some (.int x)]) rfl rfl ?_
  refine g_aload_n (i := 0) rfl rfl ?_
  refine g_getfield (v := .ref 3) rfl hp hg rfl ?_
  refine g_bipush (n := 10) rfl ?_
  refine g_virt1 rfl (by decide) rfl h3 rfl (Nat.le_of_ble_eq_true rfl) (sDo_up (d := 1) (by omega) (s_append (d := 0) t (by rw [List.length_cons] at hl; omega))) (fun r h1 hq => ?_)
  obtain ⟨rfl, e1, t1⟩ := hq
  have hp1 := (tE_at e1 (by omega) (by omega)).trans hp
  refine g_iload_n (i := 1) rfl rfl ?_
  refine g_aload_n (i := 0) rfl rfl ?_
  refine g_getfield (v := .int s) rfl hp1 hg rfl ?_
  refine g_iadd rfl ?_
  refine g_ireturn (ty := .int) rfl rfl rfl ?_
  exact ⟨rfl, e1, t1⟩
theorem m107 {d p ci : Nat} {s c : Int32} (hc : ci ∈ bCutL) (hp3 : 79 ≤ p) : bB (d + 3) 107 p ci s c (fun x => x + s + (cD c (Int8.ofInt 100).toInt32)) [(Int8.ofInt 20).toInt32, (Int8.ofInt 10).toInt32] := by
  obtain ⟨hg, h11, -⟩ := cut_ty hc
  intro h l x hp t hl
  obtain ⟨so0, el0, h3, -⟩ := id t
  refine sDo_of (d := d + 2) (nL := 2) (L := [some (.ref p), some (.int x)]) rfl rfl ?_
  refine g_aload_n (i := 0) rfl rfl ?_
  refine g_getfield (v := .ref 3) rfl hp hg rfl ?_
  refine g_bipush (n := 20) rfl ?_
  refine g_virt1 rfl (by decide) rfl h3 rfl (Nat.le_of_ble_eq_true rfl) (sDo_up (d := 1) (by omega) (s_append (d := 0) t (by rw [List.length_cons] at hl; omega))) (fun r h1 hq => ?_)
  obtain ⟨rfl, e1, t1⟩ := hq
  have hp1 := (tE_at e1 (by omega) (by omega)).trans hp
  refine g_aload_n (i := 0) rfl rfl ?_
  refine g_iload_n (i := 1) rfl rfl ?_
  refine g_init1 rfl (by decide) rfl hp1 (Nat.le_of_ble_eq_true rfl) (sDo_up (d := 2) (by omega) (m13 (d := 0) hc hp3 _ _ _ hp1 t1 (by simp only [List.length_append, List.length_cons, List.length_nil] at hl ⊢; omega))) (fun r h2 hq => ?_)
  obtain ⟨rfl, e2, t2⟩ := hq
  have hp2 := (tE_at e2 (by omega) (by omega)).trans hp1
  refine g_aload_n (i := 0) rfl rfl ?_
  refine g_getfield (v := .int (cD c (Int8.ofInt 100).toInt32)) rfl hp2 hg rfl ?_
  refine g_iadd rfl ?_
  refine g_ireturn (ty := .int) rfl rfl rfl ?_
  exact ⟨rfl, tE_tr e1 (e2), ap_as t2⟩
theorem m4 {d p ci : Nat} {s c : Int32} (hc : ci ∈ bCutL) (hp3 : 79 ≤ p) : bB (d + 4) 4 p ci s c (fun x => -(x + s + (cD c (Int8.ofInt 100).toInt32))) [(Int8.ofInt 51).toInt32, (Int8.ofInt 20).toInt32, (Int8.ofInt 10).toInt32] := by
  obtain ⟨hg, h11, -⟩ := cut_ty hc
  intro h l x hp t hl
  obtain ⟨so0, el0, h3, -⟩ := id t
  refine sDo_of (d := d + 3) (nL := 2) (L := [some (.ref p), some (.int x)]) rfl rfl ?_
  refine g_aload_n (i := 0) rfl rfl ?_
  refine g_getfield (v := .ref 3) rfl hp hg rfl ?_
  refine g_bipush (n := 51) rfl ?_
  refine g_virt1 rfl (by decide) rfl h3 rfl (Nat.le_of_ble_eq_true rfl) (sDo_up (d := 1) (by omega) (s_append (d := 0) t (by rw [List.length_cons] at hl; omega))) (fun r h1 hq => ?_)
  obtain ⟨rfl, e1, t1⟩ := hq
  have hp1 := (tE_at e1 (by omega) (by omega)).trans hp
  refine g_aload_n (i := 0) rfl rfl ?_
  refine g_iload_n (i := 1) rfl rfl ?_
  refine g_init1 rfl (by decide) rfl hp1 (Nat.le_of_ble_eq_true rfl) (sDo_up (d := 3) (by omega) (m107 (d := 0) hc hp3 _ _ _ hp1 t1 (by simp only [List.length_append, List.length_cons, List.length_nil] at hl ⊢; omega))) (fun r h2 hq => ?_)
  obtain ⟨rfl, e2, t2⟩ := hq
  have hp2 := (tE_at e2 (by omega) (by omega)).trans hp1
  refine g_ineg rfl ?_
  refine g_ireturn (ty := .int) rfl rfl rfl ?_
  exact ⟨rfl, tE_tr e1 (e2), ap_as t2⟩
theorem m111 {d p ci : Nat} {s c : Int32} (hc : ci ∈ bCutL) (hp3 : 79 ≤ p) : bB (d + 3) 111 p ci s c (fun x => (x + s) * Int32.ofInt 2) [(Int8.ofInt 70).toInt32, (Int8.ofInt 10).toInt32] := by
  obtain ⟨hg, h11, -⟩ := cut_ty hc
  intro h l x hp t hl
  obtain ⟨so0, el0, h3, -⟩ := id t
  refine sDo_of (d := d + 2) (nL := 2) (L := [some (.ref p), some (.int x)]) rfl rfl ?_
  refine g_aload_n (i := 0) rfl rfl ?_
  refine g_getfield (v := .ref 3) rfl hp hg rfl ?_
  refine g_bipush (n := 70) rfl ?_
  refine g_virt1 rfl (by decide) rfl h3 rfl (Nat.le_of_ble_eq_true rfl) (sDo_up (d := 1) (by omega) (s_append (d := 0) t (by rw [List.length_cons] at hl; omega))) (fun r h1 hq => ?_)
  obtain ⟨rfl, e1, t1⟩ := hq
  have hp1 := (tE_at e1 (by omega) (by omega)).trans hp
  refine g_aload_n (i := 0) rfl rfl ?_
  refine g_iload_n (i := 1) rfl rfl ?_
  refine g_init1 rfl (by decide) rfl hp1 (Nat.le_of_ble_eq_true rfl) (sDo_up (d := 2) (by omega) (m13 (d := 0) hc hp3 _ _ _ hp1 t1 (by simp only [List.length_append, List.length_cons, List.length_nil] at hl ⊢; omega))) (fun r h2 hq => ?_)
  obtain ⟨rfl, e2, t2⟩ := hq
  have hp2 := (tE_at e2 (by omega) (by omega)).trans hp1
  refine g_iconst (n := 2) rfl ?_
  refine g_imul rfl ?_
  refine g_ireturn (ty := .int) rfl rfl rfl ?_
  exact ⟨rfl, tE_tr e1 (e2), ap_as t2⟩
theorem m14 {d p ci : Nat} {s c : Int32} {P : Int32 → Int32} {Lp : List Int32} (hc : ci ∈ bCutL) (hp3 : 79 ≤ p) (hP : bB 4 (sVt 1003 ci) p ci s c P Lp) : bB (d + 5) 14 p ci s c (fun x => P x * Int32.ofInt 2) ((Int8.ofInt 11).toInt32 :: Lp) := by
  obtain ⟨hg, h11, -⟩ := cut_ty hc
  intro h l x hp t hl
  obtain ⟨so0, el0, h3, -⟩ := id t
  refine sDo_of (d := d + 4) (nL := 2) (L := [some (.ref p), some (.int x)]) rfl rfl ?_
  refine g_aload_n (i := 0) rfl rfl ?_
  refine g_getfield (v := .ref 3) rfl hp hg rfl ?_
  refine g_bipush (n := 11) rfl ?_
  refine g_virt1 rfl (by decide) rfl h3 rfl (Nat.le_of_ble_eq_true rfl) (sDo_up (d := 1) (by omega) (s_append (d := 0) t (by rw [List.length_cons] at hl; omega))) (fun r h1 hq => ?_)
  obtain ⟨rfl, e1, t1⟩ := hq
  have hp1 := (tE_at e1 (by omega) (by omega)).trans hp
  refine g_aload_n (i := 0) rfl rfl ?_
  refine g_iload_n (i := 1) rfl rfl ?_
  refine g_fam rfl (by decide) hp1 ⟨hg, h11⟩ (Nat.le_of_ble_eq_true rfl) (sDo_up (d := 4) (by omega) (hP _ _ _ hp1 t1 (by simp only [List.length_append, List.length_cons, List.length_nil] at hl ⊢; omega))) (fun r h2 hq => ?_)
  obtain ⟨rfl, e2, t2⟩ := hq
  have hp2 := (tE_at e2 (by omega) (by omega)).trans hp1
  refine g_iconst (n := 2) rfl ?_
  refine g_imul rfl ?_
  refine g_ireturn (ty := .int) rfl rfl rfl ?_
  exact ⟨rfl, tE_tr e1 (e2), ap_as t2⟩
theorem m8 {d p ci : Nat} {s c : Int32} {P : Int32 → Int32} {Lp : List Int32} (hc : ci ∈ bCutL) (hp3 : 79 ≤ p) (hP : bB 4 (sVt 1003 ci) p ci s c P Lp) : bB (d + 6) 8 p ci s c (fun x => P x * Int32.ofInt 2 * Int32.ofInt 3) ((Int8.ofInt 30).toInt32 :: (Int8.ofInt 11).toInt32 :: Lp) := by
  obtain ⟨hg, h11, -⟩ := cut_ty hc
  intro h l x hp t hl
  obtain ⟨so0, el0, h3, -⟩ := id t
  refine sDo_of (d := d + 5) (nL := 2) (L := [some (.ref p), some (.int x)]) rfl rfl ?_
  refine g_aload_n (i := 0) rfl rfl ?_
  refine g_getfield (v := .ref 3) rfl hp hg rfl ?_
  refine g_bipush (n := 30) rfl ?_
  refine g_virt1 rfl (by decide) rfl h3 rfl (Nat.le_of_ble_eq_true rfl) (sDo_up (d := 1) (by omega) (s_append (d := 0) t (by rw [List.length_cons] at hl; omega))) (fun r h1 hq => ?_)
  obtain ⟨rfl, e1, t1⟩ := hq
  have hp1 := (tE_at e1 (by omega) (by omega)).trans hp
  refine g_aload_n (i := 0) rfl rfl ?_
  refine g_iload_n (i := 1) rfl rfl ?_
  refine g_init1 rfl (by decide) rfl hp1 (Nat.le_of_ble_eq_true rfl) (sDo_up (d := 5) (by omega) (m14 (d := 0) hc hp3 hP _ _ _ hp1 t1 (by simp only [List.length_append, List.length_cons, List.length_nil] at hl ⊢; omega))) (fun r h2 hq => ?_)
  obtain ⟨rfl, e2, t2⟩ := hq
  have hp2 := (tE_at e2 (by omega) (by omega)).trans hp1
  refine g_iconst (n := 3) rfl ?_
  refine g_imul rfl ?_
  refine g_ireturn (ty := .int) rfl rfl rfl ?_
  exact ⟨rfl, tE_tr e1 (e2), ap_as t2⟩
theorem m3 {d p ci : Nat} {s c : Int32} {P : Int32 → Int32} {Lp : List Int32} (hc : ci ∈ bCutL) (hp3 : 79 ≤ p) (hP : bB 4 (sVt 1003 ci) p ci s c P Lp) : bB (d + 6) 3 p ci s c (fun x => P (x + Int32.ofInt 1) * Int32.ofInt 2) ((Int8.ofInt 50).toInt32 :: (Int8.ofInt 11).toInt32 :: Lp) := by
  obtain ⟨hg, h11, -⟩ := cut_ty hc
  intro h l x hp t hl
  obtain ⟨so0, el0, h3, -⟩ := id t
  refine sDo_of (d := d + 5) (nL := 2) (L := [some (.ref p), some (.int x)]) rfl rfl ?_
  refine g_aload_n (i := 0) rfl rfl ?_
  refine g_getfield (v := .ref 3) rfl hp hg rfl ?_
  refine g_bipush (n := 50) rfl ?_
  refine g_virt1 rfl (by decide) rfl h3 rfl (Nat.le_of_ble_eq_true rfl) (sDo_up (d := 1) (by omega) (s_append (d := 0) t (by rw [List.length_cons] at hl; omega))) (fun r h1 hq => ?_)
  obtain ⟨rfl, e1, t1⟩ := hq
  have hp1 := (tE_at e1 (by omega) (by omega)).trans hp
  refine g_aload_n (i := 0) rfl rfl ?_
  refine g_iload_n (i := 1) rfl rfl ?_
  refine g_iconst (n := 1) rfl ?_
  refine g_iadd rfl ?_
  refine g_init1 rfl (by decide) rfl hp1 (Nat.le_of_ble_eq_true rfl) (sDo_up (d := 5) (by omega) (m14 (d := 0) hc hp3 hP _ _ _ hp1 t1 (by simp only [List.length_append, List.length_cons, List.length_nil] at hl ⊢; omega))) (fun r h2 hq => ?_)
  obtain ⟨rfl, e2, t2⟩ := hq
  have hp2 := (tE_at e2 (by omega) (by omega)).trans hp1
  refine g_ireturn (ty := .int) rfl rfl rfl ?_
  exact ⟨rfl, tE_tr e1 (e2), ap_as t2⟩
theorem m112 {d p ci : Nat} {s c : Int32} {P : Int32 → Int32} {Lp : List Int32} (hc : ci ∈ bCutL) (hp3 : 79 ≤ p) (hP : bB 4 (sVt 1003 ci) p ci s c P Lp) : bB (d + 7) 112 p ci s c (fun x => P (x - (cD c (Int8.ofInt 100).toInt32)) * Int32.ofInt 2 * Int32.ofInt 3) ((Int8.ofInt 71).toInt32 :: (Int8.ofInt 30).toInt32 :: (Int8.ofInt 11).toInt32 :: Lp) := by
  obtain ⟨hg, h11, -⟩ := cut_ty hc
  intro h l x hp t hl
  obtain ⟨so0, el0, h3, -⟩ := id t
  refine sDo_of (d := d + 6) (nL := 2) (L := [some (.ref p), some (.int x)]) rfl rfl ?_
  refine g_aload_n (i := 0) rfl rfl ?_
  refine g_getfield (v := .ref 3) rfl hp hg rfl ?_
  refine g_bipush (n := 71) rfl ?_
  refine g_virt1 rfl (by decide) rfl h3 rfl (Nat.le_of_ble_eq_true rfl) (sDo_up (d := 1) (by omega) (s_append (d := 0) t (by rw [List.length_cons] at hl; omega))) (fun r h1 hq => ?_)
  obtain ⟨rfl, e1, t1⟩ := hq
  have hp1 := (tE_at e1 (by omega) (by omega)).trans hp
  refine g_aload_n (i := 0) rfl rfl ?_
  refine g_iload_n (i := 1) rfl rfl ?_
  refine g_aload_n (i := 0) rfl rfl ?_
  refine g_getfield (v := .int (cD c (Int8.ofInt 100).toInt32)) rfl hp1 hg rfl ?_
  refine g_isub rfl ?_
  refine g_init1 rfl (by decide) rfl hp1 (Nat.le_of_ble_eq_true rfl) (sDo_up (d := 6) (by omega) (m8 (d := 0) hc hp3 hP _ _ _ hp1 t1 (by simp only [List.length_append, List.length_cons, List.length_nil] at hl ⊢; omega))) (fun r h2 hq => ?_)
  obtain ⟨rfl, e2, t2⟩ := hq
  have hp2 := (tE_at e2 (by omega) (by omega)).trans hp1
  refine g_ireturn (ty := .int) rfl rfl rfl ?_
  exact ⟨rfl, tE_tr e1 (e2), ap_as t2⟩
theorem m15 {d p ci : Nat} {s c : Int32} {P Wf : Int32 → Int32} {Lp Lw : List Int32} (hc : ci ∈ bCutL) (hp3 : 79 ≤ p) (hP : bB 4 (sVt 1003 ci) p ci s c P Lp) (hW : bB 7 (sVt 1004 ci) p ci s c Wf Lw) : bB (d + 8) 15 p ci s c (fun x => Wf x ^^^ P (x - (cD c (Int8.ofInt 100).toInt32))) ((Int8.ofInt 12).toInt32 :: (Lw ++ Lp)) := by
  obtain ⟨hg, h11, -⟩ := cut_ty hc
  intro h l x hp t hl
  obtain ⟨so0, el0, h3, -⟩ := id t
  refine sDo_of (d := d + 7) (nL := 2) (L := [some (.ref p), some (.int x)]) rfl rfl ?_
  refine g_aload_n (i := 0) rfl rfl ?_
  refine g_getfield (v := .ref 3) rfl hp hg rfl ?_
  refine g_bipush (n := 12) rfl ?_
  refine g_virt1 rfl (by decide) rfl h3 rfl (Nat.le_of_ble_eq_true rfl) (sDo_up (d := 1) (by omega) (s_append (d := 0) t (by rw [List.length_cons] at hl; omega))) (fun r h1 hq => ?_)
  obtain ⟨rfl, e1, t1⟩ := hq
  have hp1 := (tE_at e1 (by omega) (by omega)).trans hp
  refine g_aload_n (i := 0) rfl rfl ?_
  refine g_iload_n (i := 1) rfl rfl ?_
  refine g_fam rfl (by decide) hp1 ⟨hg, h11⟩ (Nat.le_of_ble_eq_true rfl) (sDo_up (d := 7) (by omega) (hW _ _ _ hp1 t1 (by simp only [List.length_append, List.length_cons, List.length_nil] at hl ⊢; omega))) (fun r h2 hq => ?_)
  obtain ⟨rfl, e2, t2⟩ := hq
  have hp2 := (tE_at e2 (by omega) (by omega)).trans hp1
  refine g_aload_n (i := 0) rfl rfl ?_
  refine g_iload_n (i := 1) rfl rfl ?_
  refine g_aload_n (i := 0) rfl rfl ?_
  refine g_getfield (v := .int (cD c (Int8.ofInt 100).toInt32)) rfl hp2 hg rfl ?_
  refine g_isub rfl ?_
  refine g_fam rfl (by decide) hp2 ⟨hg, h11⟩ (Nat.le_of_ble_eq_true rfl) (sDo_up (d := 4) (by omega) (hP _ _ _ hp2 t2 (by simp only [List.length_append, List.length_cons, List.length_nil] at hl ⊢; omega))) (fun r h3 hq => ?_)
  obtain ⟨rfl, e3, t3⟩ := hq
  have hp3 := (tE_at e3 (by omega) (by omega)).trans hp2
  refine g_ixor rfl ?_
  refine g_ireturn (ty := .int) rfl rfl rfl ?_
  exact ⟨rfl, tE_tr e1 (tE_tr e2 (e3)), ap_as (by rw [← List.append_assoc]; exact t3)⟩
theorem m58 {d p ci : Nat} {s c : Int32} {P Wf : Int32 → Int32} {Lp Lw : List Int32} (hc : ci ∈ bCutL) (hp3 : 79 ≤ p) (hP : bB 4 (sVt 1003 ci) p ci s c P Lp) (hW : bB 7 (sVt 1004 ci) p ci s c Wf Lw) : bB (d + 9) 58 p ci s c (fun x => (Wf x ^^^ P (x - (cD c (Int8.ofInt 100).toInt32))) ^^^ Int32.ofInt 5) ((Int8.ofInt 60).toInt32 :: (Int8.ofInt 12).toInt32 :: (Lw ++ Lp)) := by
  obtain ⟨hg, h11, -⟩ := cut_ty hc
  intro h l x hp t hl
  obtain ⟨so0, el0, h3, -⟩ := id t
  refine sDo_of (d := d + 8) (nL := 2) (L := [some (.ref p), some (.int x)]) rfl rfl ?_
  refine g_aload_n (i := 0) rfl rfl ?_
  refine g_getfield (v := .ref 3) rfl hp hg rfl ?_
  refine g_bipush (n := 60) rfl ?_
  refine g_virt1 rfl (by decide) rfl h3 rfl (Nat.le_of_ble_eq_true rfl) (sDo_up (d := 1) (by omega) (s_append (d := 0) t (by rw [List.length_cons] at hl; omega))) (fun r h1 hq => ?_)
  obtain ⟨rfl, e1, t1⟩ := hq
  have hp1 := (tE_at e1 (by omega) (by omega)).trans hp
  refine g_aload_n (i := 0) rfl rfl ?_
  refine g_iload_n (i := 1) rfl rfl ?_
  refine g_init1 rfl (by decide) rfl hp1 (Nat.le_of_ble_eq_true rfl) (sDo_up (d := 8) (by omega) (m15 (d := 0) hc hp3 hP hW _ _ _ hp1 t1 (by simp only [List.length_append, List.length_cons, List.length_nil] at hl ⊢; omega))) (fun r h2 hq => ?_)
  obtain ⟨rfl, e2, t2⟩ := hq
  have hp2 := (tE_at e2 (by omega) (by omega)).trans hp1
  refine g_iconst (n := 5) rfl ?_
  refine g_ixor rfl ?_
  refine g_ireturn (ty := .int) rfl rfl rfl ?_
  exact ⟨rfl, tE_tr e1 (e2), ap_as t2⟩
theorem m63 {d p ci : Nat} {s c : Int32} {P Wf : Int32 → Int32} {Lp Lw : List Int32} (hc : ci ∈ bCutL) (hp3 : 79 ≤ p) (hP : bB 4 (sVt 1003 ci) p ci s c P Lp) (hW : bB 7 (sVt 1004 ci) p ci s c Wf Lw) : bB (d + 9) 63 p ci s c (fun x => (Wf x ^^^ P (x - (cD c (Int8.ofInt 100).toInt32))) - s) ((Int8.ofInt 40).toInt32 :: (Int8.ofInt 12).toInt32 :: (Lw ++ Lp)) := by
  obtain ⟨hg, h11, -⟩ := cut_ty hc
  intro h l x hp t hl
  obtain ⟨so0, el0, h3, -⟩ := id t
  refine sDo_of (d := d + 8) (nL := 2) (L := [some (.ref p), some (.int x)]) rfl rfl ?_
  refine g_aload_n (i := 0) rfl rfl ?_
  refine g_getfield (v := .ref 3) rfl hp hg rfl ?_
  refine g_bipush (n := 40) rfl ?_
  refine g_virt1 rfl (by decide) rfl h3 rfl (Nat.le_of_ble_eq_true rfl) (sDo_up (d := 1) (by omega) (s_append (d := 0) t (by rw [List.length_cons] at hl; omega))) (fun r h1 hq => ?_)
  obtain ⟨rfl, e1, t1⟩ := hq
  have hp1 := (tE_at e1 (by omega) (by omega)).trans hp
  refine g_aload_n (i := 0) rfl rfl ?_
  refine g_iload_n (i := 1) rfl rfl ?_
  refine g_init1 rfl (by decide) rfl hp1 (Nat.le_of_ble_eq_true rfl) (sDo_up (d := 8) (by omega) (m15 (d := 0) hc hp3 hP hW _ _ _ hp1 t1 (by simp only [List.length_append, List.length_cons, List.length_nil] at hl ⊢; omega))) (fun r h2 hq => ?_)
  obtain ⟨rfl, e2, t2⟩ := hq
  have hp2 := (tE_at e2 (by omega) (by omega)).trans hp1
  refine g_aload_n (i := 0) rfl rfl ?_
  refine g_getfield (v := .int s) rfl hp2 hg rfl ?_
  refine g_isub rfl ?_
  refine g_ireturn (ty := .int) rfl rfl rfl ?_
  exact ⟨rfl, tE_tr e1 (e2), ap_as t2⟩
theorem bB_up {d d' k p ci : Nat} {s c : Int32} {val : Int32 → Int32} {L : List Int32} (a : bB d k p ci s c val L) (h : d ≤ d') : bB d' k p ci s c val L := fun h' l x hp t hl => sDo_up h (a h' l x hp t hl)
def bKl7 (k : Nat) : Nat := [2, 9, 1, 5, 0, 4, 10].getD k 2
theorem fam_p {k p : Nat} {s c : Int32} (hk : k < 7) (hp3 : 79 ≤ p) : bB 4 (sVt 1003 (bKl7 k)) p (bKl7 k) s c (pv k s (cD c (Int8.ofInt 100).toInt32)) (pL k) := by
  match k, hk with
  | 0, _ => exact bB_up (m13 (d := 0) (ci := 2) (by decide) hp3) (by omega)
  | 1, _ => exact bB_up (m107 (d := 0) (ci := 9) (by decide) hp3) (by omega)
  | 2, _ => exact bB_up (m13 (d := 0) (ci := 1) (by decide) hp3) (by omega)
  | 3, _ => exact bB_up (m13 (d := 0) (ci := 5) (by decide) hp3) (by omega)
  | 4, _ => exact bB_up (m4 (d := 0) (ci := 0) (by decide) hp3) (by omega)
  | 5, _ => exact bB_up (m107 (d := 0) (ci := 4) (by decide) hp3) (by omega)
  | 6, _ => exact bB_up (m111 (d := 0) (ci := 10) (by decide) hp3) (by omega)
  | k + 7, hk => exact absurd hk (by omega)
theorem fam_w {k p : Nat} {s c : Int32} (hk : k < 7) (hp3 : 79 ≤ p) : bB 7 (sVt 1004 (bKl7 k)) p (bKl7 k) s c (wv k s (cD c (Int8.ofInt 100).toInt32)) (wL k) := by
  match k, hk with
  | 0, _ => exact bB_up (m14 (d := 0) (ci := 2) (by decide) hp3 (fam_p (k := 0) (by decide) hp3)) (by omega)
  | 1, _ => exact bB_up (m14 (d := 0) (ci := 9) (by decide) hp3 (fam_p (k := 1) (by decide) hp3)) (by omega)
  | 2, _ => exact bB_up (m8 (d := 0) (ci := 1) (by decide) hp3 (fam_p (k := 2) (by decide) hp3)) (by omega)
  | 3, _ => exact bB_up (m14 (d := 0) (ci := 5) (by decide) hp3 (fam_p (k := 3) (by decide) hp3)) (by omega)
  | 4, _ => exact bB_up (m3 (d := 0) (ci := 0) (by decide) hp3 (fam_p (k := 4) (by decide) hp3)) (by omega)
  | 5, _ => exact bB_up (m14 (d := 0) (ci := 4) (by decide) hp3 (fam_p (k := 5) (by decide) hp3)) (by omega)
  | 6, _ => exact bB_up (m112 (d := 0) (ci := 10) (by decide) hp3 (fam_p (k := 6) (by decide) hp3)) (by omega)
  | k + 7, hk => exact absurd hk (by omega)
theorem fam_h {k p : Nat} {s c : Int32} (hk : k < 7) (hp3 : 79 ≤ p) : bB 9 (sVt 1005 (bKl7 k)) p (bKl7 k) s c (hv k s (cD c (Int8.ofInt 100).toInt32)) (hL k) := by
  match k, hk with
  | 0, _ => exact bB_up (m15 (d := 0) (ci := 2) (by decide) hp3 (fam_p (k := 0) (by decide) hp3) (fam_w (k := 0) (by decide) hp3)) (by omega)
  | 1, _ => exact bB_up (m15 (d := 0) (ci := 9) (by decide) hp3 (fam_p (k := 1) (by decide) hp3) (fam_w (k := 1) (by decide) hp3)) (by omega)
  | 2, _ => exact bB_up (m15 (d := 0) (ci := 1) (by decide) hp3 (fam_p (k := 2) (by decide) hp3) (fam_w (k := 2) (by decide) hp3)) (by omega)
  | 3, _ => exact bB_up (m63 (d := 0) (ci := 5) (by decide) hp3 (fam_p (k := 3) (by decide) hp3) (fam_w (k := 3) (by decide) hp3)) (by omega)
  | 4, _ => exact bB_up (m15 (d := 0) (ci := 0) (by decide) hp3 (fam_p (k := 4) (by decide) hp3) (fam_w (k := 4) (by decide) hp3)) (by omega)
  | 5, _ => exact bB_up (m58 (d := 0) (ci := 4) (by decide) hp3 (fam_p (k := 5) (by decide) hp3) (fam_w (k := 5) (by decide) hp3)) (by omega)
  | 6, _ => exact bB_up (m15 (d := 0) (ci := 10) (by decide) hp3 (fam_p (k := 6) (by decide) hp3) (fam_w (k := 6) (by decide) hp3)) (by omega)
  | k + 7, hk => exact absurd hk (by omega)
end
section
/-! ===== texts: the class's reader ===== -/
def tx (el : Nat → Int64) (n : Nat) : Nat → Int32 := fun i => if i < n then (el i).toInt32 else 0
def dgS (x : Int32) : Option Nat := if 48 ≤ x.toInt ∧ x.toInt ≤ 57 then some (x.toInt - 48).toNat else none
theorem dgS_lt {x : Int32} {v : Nat} (h : dgS x = some v) : v ≤ 9 ∧ 48 ≤ x.toInt ∧ x.toInt ≤ 57 ∧ x.toInt = v + 48 := by
  unfold dgS at h
  by_cases c : 48 ≤ x.toInt ∧ x.toInt ≤ 57
  · rw [if_pos c] at h
    cases h
    omega
  · rw [if_neg c] at h
    cases h
/-- digits from a place on: the number and the place behind it -/
def numS (T : Nat → Int32) (p : Nat) (lo hi : Int) : Option (Nat × Nat) := match dgS (T p) with
  | none => none
  | some d => match dgS (T (p + 1)) with
    | none => if lo ≤ d ∧ (d : Int) ≤ hi then some (d, p + 1) else none
    | some e => if lo ≤ (10 * d + e : Nat) ∧ ((10 * d + e : Nat) : Int) ≤ hi then some (10 * d + e, p + 2) else none
/-- a blank and a number -/
def nxtS (T : Nat → Int32) (p : Nat) (lo hi : Int) : Option (Nat × Nat) := if T p = 32 then numS T (p + 1) lo hi else none
def rd (tp : Nat) (flt : Int32) (A : Nat) : va_E := .inr (6, [.int flt, .ref tp, .ref 27, .int (Int32.ofNat A)])
theorem s_intR {d : Nat} {h : sHp} {tp ep n I : Nat} {ot i : Int32} {el : Nat → Int64} (ht : h[tp]? = some (.inr (7, [.int ot, .int (Int32.ofNat n), .ref ep]))) (he : h[ep]? = some (.inl (1, 100, .inr (.inl el)))) (hn : n ≤ 100) (hi : i.toInt = I) : sDo (d + 2) 85 [.ref tp, .int i] h (fun r h' => h' = h ∧ r = some (.int (tx el n I))) := by
  have en := ofN_toInt (n := n) (by omega)
  refine sDo_of (d := d + 1) (nL := 2) (L := [some (.ref tp), some (.int i)]) rfl rfl ?_
  refine g_aload_n (i := 0) rfl rfl ?_
  refine g_iload_n (i := 1) rfl rfl ?_
  by_cases hin : I < n
  · skip
    refine g_virt1 (Qc := fun r h' => h' = h ∧ r = some (.int 1)) rfl (by decide) rfl ht rfl (Nat.le_of_ble_eq_true rfl) (s_has7 ht (by rw [en, if_pos (by omega)])) (fun r h9 hq9 => ?_)
    obtain ⟨rfl, rfl⟩ := hq9
    refine g_if_eq 18 rfl rfl (fun hc => absurd hc (by decide)) (fun _ => ?_)
    refine g_aload_n (i := 0) rfl rfl ?_
    refine g_getfield (v := .ref ep) rfl ht (by decide) rfl ?_
    refine g_iload_n (i := 1) rfl rfl ?_
    refine g_laload (n := 100) (f := el) rfl he (i_in (by omega) (by omega)) ?_
    rw [i_nat hi]
    refine g_l2i rfl ?_
    refine g_goto 19 rfl rfl ?_
    refine g_ireturn (ty := .int) rfl rfl rfl ?_
    exact ⟨rfl, by unfold tx; rw [if_pos hin]⟩
  · skip
    refine g_virt1 (Qc := fun r h' => h' = h ∧ r = some (.int 0)) rfl (by decide) rfl ht rfl (Nat.le_of_ble_eq_true rfl) (s_has7 ht (by rw [en, if_neg (by omega)])) (fun r h9 hq9 => ?_)
    obtain ⟨rfl, rfl⟩ := hq9
    refine g_if_eq 18 rfl rfl (fun _ => ?_) (fun hc => absurd hc (by decide))
    refine g_iconst (n := 0) rfl ?_
    refine g_ireturn (ty := .int) rfl rfl rfl ?_
    exact ⟨rfl, by unfold tx; rw [if_neg hin]; rfl⟩
theorem s_fails {d : Nat} {h : sHp} {rp tp A : Nat} {flt pl : Int32} (hr : h[rp]? = some (rd tp flt A)) : sDo (d + 1) 66 [.ref rp, .int pl] h (fun r h' => r = some (.int 0) ∧ h' = h.set rp (rd tp pl A)) := by
  refine sDo_of (d := d) (nL := 2) (L := [some (.ref rp), some (.int pl)]) rfl rfl ?_
  refine g_aload_n (i := 0) rfl rfl ?_
  refine g_iload_n (i := 1) rfl rfl ?_
  refine g_putfield (h1 := h.set rp (rd tp pl A)) rfl hr (by decide) (Nat.le_of_ble_eq_true rfl) rfl rfl ?_
  refine g_iconst (n := 0) rfl ?_
  refine g_ireturn (ty := .boolean) rfl rfl (by decide) ?_
  exact ⟨rfl, rfl⟩
theorem s_passesY {d : Nat} {h : sHp} {rp tp ep n A : Nat} {ot flt : Int32} {el : Nat → Int64} {c : Int32} (hr : h[rp]? = some (rd tp flt A)) (ht : h[tp]? = some (.inr (7, [.int ot, .int (Int32.ofNat n), .ref ep]))) (he : h[ep]? = some (.inl (1, 100, .inr (.inl el)))) (hn : n ≤ 100) (hA : A < 990) (hcc : tx el n A = c) : sDo (d + 3) 67 [.ref rp, .int c] h (fun r h' => r = some (.int 1) ∧ h' = h.set rp (rd tp flt (A + 1))) := by
  have eA := ofN_toInt (n := A) (by omega)
  refine sDo_of (d := d + 2) (nL := 2) (L := [some (.ref rp), some (.int c)]) rfl rfl ?_
  refine g_aload_n (i := 0) rfl rfl ?_
  refine g_getfield (v := .ref tp) rfl hr (by decide) rfl ?_
  refine g_aload_n (i := 0) rfl rfl ?_
  refine g_getfield (v := .int (Int32.ofNat A)) rfl hr (by decide) rfl ?_
  refine g_virt1 (Qc := fun r h' => h' = h ∧ r = some (.int (tx el n A))) rfl (by decide) rfl ht rfl (Nat.le_of_ble_eq_true rfl) (s_intR ht he hn eA) (fun r h9 hq9 => ?_)
  obtain ⟨rfl, rfl⟩ := hq9
  refine g_iload_n (i := 1) rfl rfl ?_
  refine g_icmp_eq 24 rfl rfl (fun _ => ?_) (fun hc => absurd hc (by exact fun z => z hcc))
  refine g_aload_n (i := 0) rfl rfl ?_
  refine g_dup rfl rfl ?_
  refine g_getfield (v := .int (Int32.ofNat A)) rfl hr (by decide) rfl ?_
  refine g_iconst (n := 1) rfl ?_
  refine g_iadd rfl ?_
  rw [ofN_add (by omega)]
  refine g_putfield (h1 := h9.set rp (rd tp flt (A + 1))) rfl hr (by decide) (Nat.le_of_ble_eq_true rfl) rfl rfl ?_
  refine g_iconst (n := 1) rfl ?_
  refine g_ireturn (ty := .boolean) rfl rfl (by decide) ?_
  exact ⟨rfl, rfl⟩
theorem s_passesN {d : Nat} {h : sHp} {rp tp ep n A : Nat} {ot flt : Int32} {el : Nat → Int64} {c : Int32} (hr : h[rp]? = some (rd tp flt A)) (ht : h[tp]? = some (.inr (7, [.int ot, .int (Int32.ofNat n), .ref ep]))) (he : h[ep]? = some (.inl (1, 100, .inr (.inl el)))) (hn : n ≤ 100) (hA : A < 990) (hcc : ¬ tx el n A = c) : sDo (d + 3) 67 [.ref rp, .int c] h (fun r h' => r = some (.int 0) ∧ h' = h.set rp (rd tp (Int32.ofNat A) A)) := by
  have eA := ofN_toInt (n := A) (by omega)
  refine sDo_of (d := d + 2) (nL := 2) (L := [some (.ref rp), some (.int c)]) rfl rfl ?_
  refine g_aload_n (i := 0) rfl rfl ?_
  refine g_getfield (v := .ref tp) rfl hr (by decide) rfl ?_
  refine g_aload_n (i := 0) rfl rfl ?_
  refine g_getfield (v := .int (Int32.ofNat A)) rfl hr (by decide) rfl ?_
  refine g_virt1 (Qc := fun r h' => h' = h ∧ r = some (.int (tx el n A))) rfl (by decide) rfl ht rfl (Nat.le_of_ble_eq_true rfl) (s_intR ht he hn eA) (fun r h9 hq9 => ?_)
  obtain ⟨rfl, rfl⟩ := hq9
  refine g_iload_n (i := 1) rfl rfl ?_
  refine g_icmp_eq 24 rfl rfl (fun hc => absurd hc (by exact hcc)) (fun _ => ?_)
  refine g_aload_n (i := 0) rfl rfl ?_
  refine g_aload_n (i := 0) rfl rfl ?_
  refine g_getfield (v := .int (Int32.ofNat A)) rfl hr (by decide) rfl ?_
  refine g_virt1 (Qc := fun r h' => r = some (.int 0) ∧ h' = List.set h9 rp (rd tp (Int32.ofNat A) A)) rfl (by decide) rfl hr rfl (Nat.le_of_ble_eq_true rfl) (sDo_up (d := 1) (by omega) (s_fails (d := 0) hr)) (fun r h8 hq9 => ?_)
  obtain ⟨rfl, rfl⟩ := hq9
  refine g_ireturn (ty := .boolean) rfl rfl (by decide) ?_
  exact ⟨rfl, rfl⟩
def dgI (x : Int32) : Int32 := match dgS x with
  | some v => Int32.ofNat v
  | none => Int32.ofInt (-1)
theorem s_digitAt {d : Nat} {h : sHp} {rp tp ep n A : Nat} {ot flt : Int32} {el : Nat → Int64} {i : Int32} {I : Nat} (hr : h[rp]? = some (rd tp flt A)) (ht : h[tp]? = some (.inr (7, [.int ot, .int (Int32.ofNat n), .ref ep]))) (he : h[ep]? = some (.inl (1, 100, .inr (.inl el)))) (hn : n ≤ 100) (hA : A < 990) (hi : i.toInt = I) : sDo (d + 3) 73 [.ref rp, .int i] h (fun r h' => h' = h ∧ r = some (.int (dgI (tx el n I)))) := by
  have e48 : (Int8.ofInt 48).toInt32.toInt = 48 := rfl
  have e57 : (Int8.ofInt 57).toInt32.toInt = 57 := rfl
  refine sDo_of (d := d + 2) (nL := 3) (L := [some (.ref rp), some (.int i), none]) rfl rfl ?_
  refine g_aload_n (i := 0) rfl rfl ?_
  refine g_getfield (v := .ref tp) rfl hr (by decide) rfl ?_
  refine g_iload_n (i := 1) rfl rfl ?_
  refine g_virt1 (Qc := fun r h' => h' = h ∧ r = some (.int (tx el n I))) rfl (by decide) rfl ht rfl (Nat.le_of_ble_eq_true rfl) (s_intR ht he hn hi) (fun r h9 hq9 => ?_)
  obtain ⟨rfl, rfl⟩ := hq9
  generalize tx el n I = x
  unfold dgI dgS
  refine g_istore_n (i := 2) (L1 := [some (.ref rp), some (.int i), some (.int x)]) rfl (Nat.le_of_ble_eq_true rfl) rfl ?_
  refine g_iload_n (i := 2) rfl rfl ?_
  refine g_bipush (n := 48) rfl ?_
  refine g_icmp_lt 28 rfl rfl (fun c1 => ?_) (fun c1 => ?_)
  · skip
    rw [i_lt, e48] at c1
    refine g_iconst (n := (-1)) rfl ?_
    refine g_ireturn (ty := .int) rfl rfl rfl ?_
    exact ⟨rfl, by rw [if_neg (by omega)]⟩
  · skip
    rw [i_lt, e48] at c1
    refine g_iload_n (i := 2) rfl rfl ?_
    refine g_bipush (n := 57) rfl ?_
    refine g_icmp_gt 28 rfl rfl (fun c2 => ?_) (fun c2 => ?_)
    · skip
      rw [i_lt, e57] at c2
      refine g_iconst (n := (-1)) rfl ?_
      refine g_ireturn (ty := .int) rfl rfl rfl ?_
      exact ⟨rfl, by rw [if_neg (by omega)]⟩
    · skip
      rw [i_lt, e57] at c2
      refine g_iload_n (i := 2) rfl rfl ?_
      refine g_bipush (n := 48) rfl ?_
      refine g_isub rfl ?_
      refine g_goto 29 rfl rfl ?_
      refine g_ireturn (ty := .int) rfl rfl rfl ?_
      refine ⟨rfl, ?_⟩
      rw [if_pos (by omega)]
      refine congrArg (fun v => some (Value.int v)) (Int32.toInt_inj.mp ?_)
      rw [i_sub (by rw [e48]; omega) (by rw [e48]; omega), e48, ofN_toInt (by omega)]
      omega
def qNum (rp tp : Nat) (flt : Int32) (h : sHp) (q : Option (Nat × Nat)) (r : Option Value) (h' : sHp) : Prop := match q with
  | some (v, A') => r = some (.int (Int32.ofNat v)) ∧ h' = h.set rp (rd tp flt A')
  | none => r = some (.int (Int32.ofInt (-1))) ∧ ∃ F A' : Nat, F < 999 ∧ h' = h.set rp (rd tp (Int32.ofNat F) A')
theorem s_rnTail {d : Nat} {h h0 : sHp} {rp tp A F v : Nat} {flt lo hi x5 : Int32} {q : Option (Nat × Nat)} (hr : h[rp]? = some (rd tp flt A)) (h0e : ∀ c, h.set rp c = h0.set rp c) (hh : h = h0.set rp (rd tp flt A)) (hv : v < 900) (hF : F < 999) (hq : q = if lo.toInt ≤ v ∧ (v : Int) ≤ hi.toInt then some (v, A) else none) : sGo none 72 (d + 1) 89 [some (.ref rp), some (.int lo), some (.int hi), some (.int (Int32.ofNat F)), some (.int (Int32.ofNat v)), some (.int x5)] [] h (qNum rp tp flt h0 q) := by
  have ev := ofN_toInt (n := v) (by omega)
  refine g_iload (i := 4) rfl rfl ?_
  refine g_iload_n (i := 1) rfl rfl ?_
  refine g_icmp_lt 101 rfl rfl (fun c1 => ?_) (fun c1 => ?_)
  · skip
    rw [i_lt, ev] at c1
    refine g_aload_n (i := 0) rfl rfl ?_
    refine g_iload_n (i := 3) rfl rfl ?_
    refine g_virt1 (Qc := fun r h' => r = some (.int 0) ∧ h' = List.set h rp (rd tp (Int32.ofNat F) A)) rfl (by decide) rfl hr rfl (Nat.le_of_ble_eq_true rfl) (sDo_up (d := 1) (by omega) (s_fails (d := 0) hr)) (fun r h8 hq9 => ?_)
    obtain ⟨rfl, rfl⟩ := hq9
    refine g_pop rfl rfl ?_
    refine g_iconst (n := (-1)) rfl ?_
    refine g_ireturn (ty := .int) rfl rfl rfl ?_
    rw [hq, if_neg (by omega)]
    exact ⟨rfl, F, A, hF, h0e _⟩
  · skip
    rw [i_lt, ev] at c1
    refine g_iload (i := 4) rfl rfl ?_
    refine g_iload_n (i := 2) rfl rfl ?_
    refine g_icmp_le 109 rfl rfl (fun c2 => ?_) (fun c2 => ?_)
    · skip
      rw [i_le, ev] at c2
      refine g_iload (i := 4) rfl rfl ?_
      refine g_ireturn (ty := .int) rfl rfl rfl ?_
      rw [hq, if_pos (by omega)]
      exact ⟨rfl, hh⟩
    · skip
      rw [i_le, ev] at c2
      refine g_aload_n (i := 0) rfl rfl ?_
      refine g_iload_n (i := 3) rfl rfl ?_
      refine g_virt1 (Qc := fun r h' => r = some (.int 0) ∧ h' = List.set h rp (rd tp (Int32.ofNat F) A)) rfl (by decide) rfl hr rfl (Nat.le_of_ble_eq_true rfl) (sDo_up (d := 1) (by omega) (s_fails (d := 0) hr)) (fun r h8 hq9 => ?_)
      obtain ⟨rfl, rfl⟩ := hq9
      refine g_pop rfl rfl ?_
      refine g_iconst (n := (-1)) rfl ?_
      refine g_ireturn (ty := .int) rfl rfl rfl ?_
      rw [hq, if_neg (by omega)]
      exact ⟨rfl, F, A, hF, h0e _⟩
theorem s_readNumber {d : Nat} {h : sHp} {rp tp ep n A : Nat} {ot flt : Int32} {el : Nat → Int64} {lo hi : Int32} (hr : h[rp]? = some (rd tp flt A)) (ht : h[tp]? = some (.inr (7, [.int ot, .int (Int32.ofNat n), .ref ep]))) (he : h[ep]? = some (.inl (1, 100, .inr (.inl el)))) (hn : n ≤ 100) (hA : A < 990) (hA2 : A < 900) (h1 : rp ≠ tp) (h2 : rp ≠ ep) : sDo (d + 4) 72 [.ref rp, .int lo, .int hi] h (qNum rp tp flt h (nxtS (tx el n) A lo.toInt hi.toInt)) := by
  have eA1 := ofN_toInt (n := A + 1) (by omega)
  have eA2 := ofN_toInt (n := A + 2) (by omega)
  have setr : ∀ (c c' : va_E), (h.set rp c).set rp c' = h.set rp c' := fun c c' => List.set_set ..
  have htS : ∀ c, (h.set rp c)[tp]? = some (.inr (7, [.int ot, .int (Int32.ofNat n), .ref ep])) := fun c => by rw [s_set_ne h1]; exact ht
  have heS : ∀ c, (h.set rp c)[ep]? = some (.inl (1, 100, .inr (.inl el))) := fun c => by rw [s_set_ne h2]; exact he
  have hrS : ∀ c, (h.set rp c)[rp]? = some c := fun c => s_set_eq hr
  unfold nxtS
  refine sDo_of (d := d + 3) (nL := 6) (L := [some (.ref rp), some (.int lo), some (.int hi), none, none, none]) rfl rfl ?_
  by_cases hb : tx el n A = 32
  · skip
    refine g_aload_n (i := 0) rfl rfl ?_
    refine g_bipush (n := 32) rfl ?_
    refine g_virt1 (Qc := fun r h' => r = some (.int 1) ∧ h' = h.set rp (rd tp flt (A + 1))) rfl (by decide) rfl hr rfl (Nat.le_of_ble_eq_true rfl) (sDo_up (d := 3) (by omega) (s_passesY (d := 0) hr ht he hn hA hb)) (fun r h9 hq9 => ?_)
    obtain ⟨rfl, rfl⟩ := hq9
    refine g_if_ne 11 rfl rfl (fun _ => ?_) (fun hc => absurd hc (by decide))
    have r1 := hrS (rd tp flt (A + 1))
    rw [if_pos hb]
    refine g_aload_n (i := 0) rfl rfl ?_
    refine g_getfield (v := .int (Int32.ofNat (A + 1))) rfl r1 (by decide) rfl ?_
    refine g_istore_n (i := 3) (L1 := [some (.ref rp), some (.int lo), some (.int hi), some (.int (Int32.ofNat (A + 1))), none, none]) rfl (Nat.le_of_ble_eq_true rfl) rfl ?_
    refine g_aload_n (i := 0) rfl rfl ?_
    refine g_aload_n (i := 0) rfl rfl ?_
    refine g_getfield (v := .int (Int32.ofNat (A + 1))) rfl r1 (by decide) rfl ?_
    refine g_virt1 (Qc := fun r h' => h' = h.set rp (rd tp flt (A + 1)) ∧ r = some (.int (dgI (tx el n (A + 1))))) rfl (by decide) rfl r1 rfl (Nat.le_of_ble_eq_true rfl) (sDo_up (d := 3) (by omega) (s_digitAt (d := 0) r1 (htS _) (heS _) hn (by omega) (ofN_toInt (n := A + 1) (by omega)))) (fun r h9 hq9 => ?_)
    obtain ⟨rfl, rfl⟩ := hq9
    unfold numS
    cases hd : dgS (tx el n (A + 1)) with
    | none =>
      have e1 : dgI (tx el n (A + 1)) = Int32.ofInt (-1) := by unfold dgI; rw [hd]
      rw [e1]
      refine g_istore (i := 4) (L1 := [some (.ref rp), some (.int lo), some (.int hi), some (.int (Int32.ofNat (A + 1))), some (.int (Int32.ofInt (-1))), none]) rfl (Nat.le_of_ble_eq_true rfl) rfl ?_
      refine g_iload (i := 4) rfl rfl ?_
      refine g_iconst (n := (-1)) rfl ?_
      refine g_icmp_ne 43 rfl rfl (fun hc => absurd hc (by exact fun z => z rfl)) (fun _ => ?_)
      refine g_aload_n (i := 0) rfl rfl ?_
      refine g_aload_n (i := 0) rfl rfl ?_
      refine g_getfield (v := .int (Int32.ofNat (A + 1))) rfl r1 (by decide) rfl ?_
      refine g_virt1 (Qc := fun r h' => r = some (.int 0) ∧ h' = (h.set rp (rd tp flt (A + 1))).set rp (rd tp (Int32.ofNat (A + 1)) (A + 1))) rfl (by decide) rfl r1 rfl (Nat.le_of_ble_eq_true rfl) (sDo_up (d := 1) (by omega) (s_fails (d := 0) r1)) (fun r h8 hq9 => ?_)
      obtain ⟨rfl, rfl⟩ := hq9
      refine g_pop rfl rfl ?_
      refine g_iconst (n := (-1)) rfl ?_
      refine g_ireturn (ty := .int) rfl rfl rfl ?_
      exact ⟨rfl, A + 1, A + 1, by omega, setr _ _⟩
    | some dv =>
      obtain ⟨d9, -⟩ := dgS_lt hd
      have e1 : dgI (tx el n (A + 1)) = Int32.ofNat dv := by unfold dgI; rw [hd]
      rw [e1]
      have edv := ofN_toInt (n := dv) (by omega)
      have em1 : (Int32.ofInt (-1)).toInt = -1 := rfl
      refine g_istore (i := 4) (L1 := [some (.ref rp), some (.int lo), some (.int hi), some (.int (Int32.ofNat (A + 1))), some (.int (Int32.ofNat dv)), none]) rfl (Nat.le_of_ble_eq_true rfl) rfl ?_
      refine g_iload (i := 4) rfl rfl ?_
      refine g_iconst (n := (-1)) rfl ?_
      refine g_icmp_ne 43 rfl rfl (fun _ => ?_) (fun hc => absurd hc (by intro z; rw [z, em1] at edv; omega))
      refine g_aload_n (i := 0) rfl rfl ?_
      refine g_dup rfl rfl ?_
      refine g_getfield (v := .int (Int32.ofNat (A + 1))) rfl r1 (by decide) rfl ?_
      refine g_iconst (n := 1) rfl ?_
      refine g_iadd rfl ?_
      rw [ofN_add (by omega)]
      refine g_putfield (h1 := h.set rp (rd tp flt (A + 2))) rfl r1 (by decide) (Nat.le_of_ble_eq_true rfl) rfl (setr _ _) ?_
      have r2 := hrS (rd tp flt (A + 2))
      refine g_aload_n (i := 0) rfl rfl ?_
      refine g_aload_n (i := 0) rfl rfl ?_
      refine g_getfield (v := .int (Int32.ofNat (A + 2))) rfl r2 (by decide) rfl ?_
      refine g_virt1 (Qc := fun r h' => h' = h.set rp (rd tp flt (A + 2)) ∧ r = some (.int (dgI (tx el n (A + 2))))) rfl (by decide) rfl r2 rfl (Nat.le_of_ble_eq_true rfl) (sDo_up (d := 3) (by omega) (s_digitAt (d := 0) r2 (htS _) (heS _) hn (by omega) (ofN_toInt (n := A + 2) (by omega)))) (fun r h9 hq9 => ?_)
      obtain ⟨rfl, rfl⟩ := hq9
      cases hd2 : dgS (tx el n (A + 1 + 1)) with
      | none =>
        have e2 : dgI (tx el n (A + 2)) = Int32.ofInt (-1) := by unfold dgI; rw [hd2]
        rw [e2]
        refine g_istore (i := 5) (L1 := [some (.ref rp), some (.int lo), some (.int hi), some (.int (Int32.ofNat (A + 1))), some (.int (Int32.ofNat dv)), some (.int (Int32.ofInt (-1)))]) rfl (Nat.le_of_ble_eq_true rfl) rfl ?_
        refine g_iload (i := 5) rfl rfl ?_
        refine g_iconst (n := (-1)) rfl ?_
        refine g_icmp_eq 89 rfl rfl (fun _ => ?_) (fun hc => absurd hc (by exact fun z => z rfl))
        exact s_rnTail (v := dv) (A := A + 2) r2 (fun c => setr _ _) rfl (by omega) (by omega) rfl
      | some ev =>
        obtain ⟨d8, -⟩ := dgS_lt hd2
        have e2 : dgI (tx el n (A + 2)) = Int32.ofNat ev := by unfold dgI; rw [hd2]
        rw [e2]
        have eev := ofN_toInt (n := ev) (by omega)
        refine g_istore (i := 5) (L1 := [some (.ref rp), some (.int lo), some (.int hi), some (.int (Int32.ofNat (A + 1))), some (.int (Int32.ofNat dv)), some (.int (Int32.ofNat ev))]) rfl (Nat.le_of_ble_eq_true rfl) rfl ?_
        refine g_iload (i := 5) rfl rfl ?_
        refine g_iconst (n := (-1)) rfl ?_
        refine g_icmp_eq 89 rfl rfl (fun hc => absurd hc (by intro z; rw [z, em1] at eev; omega)) (fun _ => ?_)
        have e10 : (Int8.ofInt 10).toInt32.toInt = 10 := rfl
        have ee : (Int8.ofInt 10).toInt32 * Int32.ofNat dv + Int32.ofNat ev = Int32.ofNat (10 * dv + ev) := by
          apply Int32.toInt_inj.mp
          have m1 : ((Int8.ofInt 10).toInt32 * Int32.ofNat dv).toInt = 10 * dv := by rw [i_mul (by rw [e10, edv]; omega) (by rw [e10, edv]; omega), e10, edv]
          rw [i_add (by rw [m1, eev]; omega) (by rw [m1, eev]; omega), m1, eev, ofN_toInt (by omega)]
          omega
        refine g_bipush (n := 10) rfl ?_
        refine g_iload (i := 4) rfl rfl ?_
        refine g_imul rfl ?_
        refine g_iload (i := 5) rfl rfl ?_
        refine g_iadd rfl ?_
        rw [ee]
        refine g_istore (i := 4) (L1 := [some (.ref rp), some (.int lo), some (.int hi), some (.int (Int32.ofNat (A + 1))), some (.int (Int32.ofNat (10 * dv + ev))), some (.int (Int32.ofNat ev))]) rfl (Nat.le_of_ble_eq_true rfl) rfl ?_
        refine g_aload_n (i := 0) rfl rfl ?_
        refine g_dup rfl rfl ?_
        refine g_getfield (v := .int (Int32.ofNat (A + 2))) rfl r2 (by decide) rfl ?_
        refine g_iconst (n := 1) rfl ?_
        refine g_iadd rfl ?_
        rw [ofN_add (by omega)]
        refine g_putfield (h1 := h.set rp (rd tp flt (A + 3))) rfl r2 (by decide) (Nat.le_of_ble_eq_true rfl) rfl (setr _ _) ?_
        exact s_rnTail (v := 10 * dv + ev) (A := A + 3) (hrS _) (fun c => setr _ _) rfl (by omega) (by omega) rfl
  · skip
    refine g_aload_n (i := 0) rfl rfl ?_
    refine g_bipush (n := 32) rfl ?_
    refine g_virt1 (Qc := fun r h' => r = some (.int 0) ∧ h' = h.set rp (rd tp (Int32.ofNat A) A)) rfl (by decide) rfl hr rfl (Nat.le_of_ble_eq_true rfl) (sDo_up (d := 3) (by omega) (s_passesN (d := 0) hr ht he hn hA hb)) (fun r h9 hq9 => ?_)
    obtain ⟨rfl, rfl⟩ := hq9
    refine g_if_ne 11 rfl rfl (fun hc => absurd hc (by decide)) (fun _ => ?_)
    refine g_iconst (n := (-1)) rfl ?_
    refine g_ireturn (ty := .int) rfl rfl rfl ?_
    rw [if_neg hb]
    exact ⟨rfl, A, A, by omega, rfl⟩
end
section
/-! ===== texts: words ===== -/
/-- how many letters of a word stand from a place on -/
def alS (T : Nat → Int32) (p v : Nat) : Nat → Nat → Nat
  | 0, i => i
  | f + 1, i => if T (p + i) = sTxC v i then alS T p v f (i + 1) else i
theorem alS_le (T : Nat → Int32) (p v : Nat) : ∀ f i, i ≤ alS T p v f i ∧ alS T p v f i ≤ i + f := by
  intro f
  induction f with
  | zero => intro i; exact ⟨Nat.le_refl _, Nat.le_refl _⟩
  | succ f ih =>
    intro i
    unfold alS
    by_cases c : T (p + i) = sTxC v i
    · rw [if_pos c]
      have := ih (i + 1)
      omega
    · rw [if_neg c]
      omega
def wlS (v : Nat) : Nat := sTxL.getD v 0
theorem wlS_le (v : Nat) : wlS v ≤ 5 := by
  unfold wlS
  match v with
  | 0 | 1 | 2 | 3 | 4 | 5 | 6 => decide
  | k + 7 => exact (show (0 : Nat) ≤ 5 by decide)
theorem g_len {X : sX} {k d pc v c : Nat} {L : sLo} {st : List Value} {h : sHp} {Q : Option Value → sHp → Prop} (hF : sFk k pc = some (.invokeinterface 3000 c)) (hv : v < 7) (hcat : (st.map (fun v => v.category)).sum ≤ 8) (hd : 2 ≤ d) (hp : sLen (.invokeinterface 3000 c) = 3) (g : sGo X k d (pc + 3) L (.int (Int32.ofNat (wlS v)) :: st) h Q) : sGo X k d pc L (.ref (2000000 + v) :: st) h Q := by
  refine go_call (k1 := 300) (as := [.ref (2000000 + v)]) (rest := st) (Qc := fun r h' => r = some (.int (Int32.ofNat (wlS v))) ∧ h' = h) hF rfl ?_ hcat (sDo_up hd ⟨0, _, _, s_len_at hv h, rfl, rfl⟩) (fun r h1 hq => ?_)
  · unfold sCal
    dsimp only
    rw [show sPop (3000 - 3000) (.ref (2000000 + v) :: st) = some ([], .ref (2000000 + v) :: st) from rfl]
    exact if_pos (b_itf2 hv)
  · obtain ⟨rfl, rfl⟩ := hq
    exact g
theorem g_chr {X : sX} {k d pc v c : Nat} {L : sLo} {st : List Value} {h : sHp} {Q : Option Value → sHp → Prop} {x : Int32} (hF : sFk k pc = some (.invokeinterface 3001 c)) (hv : v < 7) (hcat : (st.map (fun v => v.category)).sum ≤ 8) (hd : 4 ≤ d) (hx : ¬ (x < 0 ∨ wlS v ≤ x.toNatClampNeg)) (g : sGo X k d (pc + 3) L (.int (sTxC v x.toNatClampNeg) :: st) h Q) : sGo X k d pc L (.int x :: .ref (2000000 + v) :: st) h Q := by
  refine go_call (k1 := 301) (as := [.ref (2000000 + v), .int x]) (rest := st) (Qc := fun r h' => r = some (.int (sTxC v x.toNatClampNeg)) ∧ h' = h) hF rfl ?_ hcat (sDo_up hd ⟨0, _, _, s_chr_at hv h hx, rfl, rfl⟩) (fun r h1 hq => ?_)
  · unfold sCal
    dsimp only
    rw [show sPop (3001 - 3000) (.int x :: .ref (2000000 + v) :: st) = some ([.int x], .ref (2000000 + v) :: st) by unfold sPop; rw [if_pos (by simp only [List.length_cons]; omega)]; rfl]
    exact if_pos (b_itf2 hv)
  · obtain ⟨rfl, rfl⟩ := hq
    exact g
theorem s_lettersAlike_go {d : Nat} {h : sHp} {rp tp ep n A v : Nat} {ot flt : Int32} {el : Nat → Int64} (hr : h[rp]? = some (rd tp flt A)) (ht : h[tp]? = some (.inr (7, [.int ot, .int (Int32.ofNat n), .ref ep]))) (he : h[ep]? = some (.inl (1, 100, .inr (.inl el)))) (hn : n ≤ 100) (hA : A < 990) (hv : v < 7) (hd : 4 ≤ d) : ∀ (f i : Nat), f + i = wlS v → sGo none 71 d 2 [some (.ref rp), some (.ref (2000000 + v)), some (.int (Int32.ofNat i))] [] h (fun r h' => h' = h ∧ r = some (.int (Int32.ofNat (alS (tx el n) A v f i)))) := by
  have hw := wlS_le v
  have eA := ofN_toInt (n := A) (by omega)
  have ew := ofN_toInt (n := wlS v) (by omega)
  intro f
  induction f with
  | zero =>
    intro i hi
    have ei := ofN_toInt (n := i) (by omega)
    refine g_iload_n (i := 2) rfl rfl ?_
    refine g_aload_n (i := 1) rfl rfl ?_
    refine g_len rfl hv (Nat.le_of_ble_eq_true rfl) (by omega) rfl ?_
    refine g_icmp_ge 39 rfl rfl (fun _ => ?_) (fun hc => absurd hc (by rw [i_le, ew, ei]; omega))
    refine g_aload_n (i := 1) rfl rfl ?_
    refine g_len rfl hv (Nat.le_of_ble_eq_true rfl) (by omega) rfl ?_
    refine g_ireturn (ty := .int) rfl rfl rfl ?_
    exact ⟨rfl, by unfold alS; rw [show wlS v = i by omega]⟩
  | succ f ih =>
    intro i hi
    have ei := ofN_toInt (n := i) (by omega)
    refine g_iload_n (i := 2) rfl rfl ?_
    refine g_aload_n (i := 1) rfl rfl ?_
    refine g_len rfl hv (Nat.le_of_ble_eq_true rfl) (by omega) rfl ?_
    refine g_icmp_ge 39 rfl rfl (fun hc => absurd hc (by rw [i_le, ew, ei]; omega)) (fun _ => ?_)
    refine g_aload_n (i := 0) rfl rfl ?_
    refine g_getfield (v := .ref tp) rfl hr (by decide) rfl ?_
    refine g_aload_n (i := 0) rfl rfl ?_
    refine g_getfield (v := .int (Int32.ofNat A)) rfl hr (by decide) rfl ?_
    refine g_iload_n (i := 2) rfl rfl ?_
    refine g_iadd rfl ?_
    have eai : (Int32.ofNat A + Int32.ofNat i).toInt = ((A + i : Nat) : Int) := by rw [i_add (by rw [eA, ei]; omega) (by rw [eA, ei]; omega), eA, ei]; omega
    refine g_virt1 (Qc := fun r h' => h' = h ∧ r = some (.int (tx el n (A + i)))) rfl (by decide) rfl ht rfl (Nat.le_of_ble_eq_true rfl) (sDo_up (d := 2) (by omega) (s_intR (d := 0) ht he hn eai)) (fun r h9 hq9 => ?_)
    obtain ⟨rfl, rfl⟩ := hq9
    refine g_aload_n (i := 1) rfl rfl ?_
    refine g_iload_n (i := 2) rfl rfl ?_
    refine g_chr rfl hv (Nat.le_of_ble_eq_true rfl) (by omega) (i_in (by omega) (by omega)) ?_
    rw [i_nat ei]
    unfold alS
    refine g_icmp_eq 33 rfl rfl (fun c1 => ?_) (fun c1 => ?_)
    · skip
      rw [if_pos c1]
      refine g_iinc (i := 2) (L1 := [some (.ref rp), some (.ref (2000000 + v)), some (.int ((Int32.ofNat i) + Int32.ofInt 1))]) rfl rfl rfl ?_
      rw [ofN_add (by omega)]
      refine g_goto 2 rfl rfl ?_
      exact ih (i + 1) (by omega)
    · skip
      rw [if_neg c1]
      refine g_iload_n (i := 2) rfl rfl ?_
      refine g_ireturn (ty := .int) rfl rfl rfl ?_
      exact ⟨rfl, rfl⟩
theorem s_lettersAlike {d : Nat} {h : sHp} {rp tp ep n A v : Nat} {ot flt : Int32} {el : Nat → Int64} (hr : h[rp]? = some (rd tp flt A)) (ht : h[tp]? = some (.inr (7, [.int ot, .int (Int32.ofNat n), .ref ep]))) (he : h[ep]? = some (.inl (1, 100, .inr (.inl el)))) (hn : n ≤ 100) (hA : A < 990) (hv : v < 7) (hd : 4 ≤ d) : sDo (d + 1) 71 [.ref rp, .ref (2000000 + v)] h (fun r h' => h' = h ∧ r = some (.int (Int32.ofNat (alS (tx el n) A v (wlS v) 0)))) := by
  refine sDo_of (d := d) (nL := 3) (L := [some (.ref rp), some (.ref (2000000 + v)), none]) rfl rfl ?_
  refine g_iconst (n := 0) rfl ?_
  refine g_istore_n (i := 2) (L1 := [some (.ref rp), some (.ref (2000000 + v)), some (.int (Int32.ofInt 0))]) rfl (Nat.le_of_ble_eq_true rfl) rfl ?_
  exact s_lettersAlike_go hr ht he hn hA hv hd (wlS v) 0 rfl
theorem s_wordOf {d : Nat} {h : sHp} {v : Nat} (hv : v < 7) : sDo (d + 1) 69 [.int (Int32.ofNat v)] h (fun r h' => h' = h ∧ r = some (.ref (2000000 + v))) := by
  have ev := ofN_toInt (n := v) (by omega)
  have hF : sFk 69 1 = some (.tableswitch 57 0 5 #[39, 42, 45, 48, 51, 54]) := rfl
  refine sDo_of (d := d) (nL := 1) (L := [some (.int (Int32.ofNat v))]) rfl rfl ?_
  refine g_iload_n (i := 0) rfl rfl ?_
  match v, hv, ev with
  | 0, _, ev =>
    refine go_jmp (pc1 := 40) (st1 := []) hF rfl rfl ?_
    refine go_heap (st1 := [.ref 2000000]) (h1 := h) (ins := .ldc 4294967296) rfl rfl rfl rfl ?_
    exact g_areturn rfl rfl ⟨rfl, rfl⟩
  | 1, _, ev =>
    refine go_jmp (pc1 := 43) (st1 := []) hF rfl rfl ?_
    refine go_heap (st1 := [.ref 2000001]) (h1 := h) (ins := .ldc 4294967297) rfl rfl rfl rfl ?_
    exact g_areturn rfl rfl ⟨rfl, rfl⟩
  | 2, _, ev =>
    refine go_jmp (pc1 := 46) (st1 := []) hF rfl rfl ?_
    refine go_heap (st1 := [.ref 2000002]) (h1 := h) (ins := .ldc 4294967298) rfl rfl rfl rfl ?_
    exact g_areturn rfl rfl ⟨rfl, rfl⟩
  | 3, _, ev =>
    refine go_jmp (pc1 := 49) (st1 := []) hF rfl rfl ?_
    refine go_heap (st1 := [.ref 2000003]) (h1 := h) (ins := .ldc 4294967299) rfl rfl rfl rfl ?_
    exact g_areturn rfl rfl ⟨rfl, rfl⟩
  | 4, _, ev =>
    refine go_jmp (pc1 := 52) (st1 := []) hF rfl rfl ?_
    refine go_heap (st1 := [.ref 2000004]) (h1 := h) (ins := .ldc 4294967300) rfl rfl rfl rfl ?_
    exact g_areturn rfl rfl ⟨rfl, rfl⟩
  | 5, _, ev =>
    refine go_jmp (pc1 := 55) (st1 := []) hF rfl rfl ?_
    refine go_heap (st1 := [.ref 2000005]) (h1 := h) (ins := .ldc 4294967301) rfl rfl rfl rfl ?_
    exact g_areturn rfl rfl ⟨rfl, rfl⟩
  | 6, _, ev =>
    refine go_jmp (pc1 := 58) (st1 := []) hF rfl rfl ?_
    refine go_heap (st1 := [.ref 2000006]) (h1 := h) (ins := .ldc 4294967302) rfl rfl rfl rfl ?_
    exact g_areturn rfl rfl ⟨rfl, rfl⟩
  | k + 7, hv, _ => exact absurd hv (by omega)
end
section
/-! ===== texts: the word that stands ===== -/
def wdS (T : Nat → Int32) (p : Nat) : Nat → Nat → Option Nat
  | 0, _ => none
  | f + 1, v => if alS T p v (wlS v) 0 = wlS v then some v else wdS T p f (v + 1)
def qWord (rp tp : Nat) (flt : Int32) (A : Nat) (h : sHp) (q : Option Nat) (r : Option Value) (h' : sHp) : Prop := match q with
  | some v => r = some (.int (Int32.ofNat v)) ∧ h' = h.set rp (rd tp flt (A + wlS v))
  | none => r = some (.int (Int32.ofInt (-1))) ∧ ∃ F A' : Nat, F < 999 ∧ h' = h.set rp (rd tp (Int32.ofNat F) A')
theorem s_readWord_go {d : Nat} {h : sHp} {rp tp ep n A Wn : Nat} {ot flt : Int32} {el : Nat → Int64} (hr : h[rp]? = some (rd tp flt A)) (ht : h[tp]? = some (.inr (7, [.int ot, .int (Int32.ofNat n), .ref ep]))) (he : h[ep]? = some (.inl (1, 100, .inr (.inl el)))) (hn : n ≤ 100) (hA : A < 990) (hW : Wn ≤ 7) (hd : 5 ≤ d) : ∀ (f v F : Nat) (o4 o5 : Option Value), f + v = Wn → F ≤ 5 → sGo none 70 d 23 [some (.ref rp), some (.int (Int32.ofNat Wn)), some (.int (Int32.ofNat F)), some (.int (Int32.ofNat v)), o4, o5] [] h (qWord rp tp flt A h (wdS (tx el n) A f v)) := by
  have eA := ofN_toInt (n := A) (by omega)
  have eW := ofN_toInt (n := Wn) (by omega)
  intro f
  induction f with
  | zero =>
    intro v F o4 o5 hv hF
    have ev := ofN_toInt (n := v) (by omega)
    have eF := ofN_toInt (n := F) (by omega)
    refine g_iload_n (i := 3) rfl rfl ?_
    refine g_iload_n (i := 1) rfl rfl ?_
    refine g_icmp_ge 78 rfl rfl (fun _ => ?_) (fun hc => absurd hc (by rw [i_le, eW, ev]; omega))
    refine g_aload_n (i := 0) rfl rfl ?_
    refine g_aload_n (i := 0) rfl rfl ?_
    refine g_getfield (v := .int (Int32.ofNat A)) rfl hr (by decide) rfl ?_
    refine g_iload_n (i := 2) rfl rfl ?_
    refine g_iadd rfl ?_
    have ee : Int32.ofNat A + Int32.ofNat F = Int32.ofNat (A + F) := by
      apply Int32.toInt_inj.mp
      rw [i_add (by rw [eA, eF]; omega) (by rw [eA, eF]; omega), eA, eF, ofN_toInt (by omega)]
      omega
    rw [ee]
    refine g_virt1 (Qc := fun r h' => r = some (.int 0) ∧ h' = h.set rp (rd tp (Int32.ofNat (A + F)) A)) rfl (by decide) rfl hr rfl (Nat.le_of_ble_eq_true rfl) (sDo_up (d := 1) (by omega) (s_fails (d := 0) hr)) (fun r h8 hq9 => ?_)
    obtain ⟨rfl, rfl⟩ := hq9
    refine g_pop rfl rfl ?_
    refine g_iconst (n := (-1)) rfl ?_
    refine g_ireturn (ty := .int) rfl rfl rfl ?_
    exact ⟨rfl, A + F, A, by omega, rfl⟩
  | succ f ih =>
    intro v F o4 o5 hv hF
    have ev := ofN_toInt (n := v) (by omega)
    have eF := ofN_toInt (n := F) (by omega)
    have wl := wlS_le v
    have al := alS_le (tx el n) A v (wlS v) 0
    have ea := ofN_toInt (n := alS (tx el n) A v (wlS v) 0) (by omega)
    have ew := ofN_toInt (n := wlS v) (by omega)
    refine g_iload_n (i := 3) rfl rfl ?_
    refine g_iload_n (i := 1) rfl rfl ?_
    refine g_icmp_ge 78 rfl rfl (fun hc => absurd hc (by rw [i_le, eW, ev]; omega)) (fun _ => ?_)
    refine g_iload_n (i := 3) rfl rfl ?_
    refine g_static1 (Qc := fun r h' => h' = h ∧ r = some (.ref (2000000 + v))) rfl (by decide) rfl (Nat.le_of_ble_eq_true rfl) (sDo_up (d := 1) (by omega) (s_wordOf (d := 0) (by omega))) (fun r h9 hq9 => ?_)
    obtain ⟨rfl, rfl⟩ := hq9
    refine g_astore (i := 4) (L1 := [some (.ref rp), some (.int (Int32.ofNat Wn)), some (.int (Int32.ofNat F)), some (.int (Int32.ofNat v)), some (.ref (2000000 + v)), o5]) rfl (Nat.le_of_ble_eq_true rfl) rfl ?_
    refine g_aload_n (i := 0) rfl rfl ?_
    refine g_aload (i := 4) rfl rfl ?_
    refine g_virt1 (Qc := fun r h' => h' = h9 ∧ r = some (.int (Int32.ofNat (alS (tx el n) A v (wlS v) 0)))) rfl (by decide) rfl hr rfl (Nat.le_of_ble_eq_true rfl) (sDo_up (d := 5) (by omega) (s_lettersAlike (d := 4) hr ht he hn hA (by omega) (Nat.le_refl _))) (fun r h8 hq9 => ?_)
    obtain ⟨rfl, rfl⟩ := hq9
    refine g_istore (i := 5) (L1 := [some (.ref rp), some (.int (Int32.ofNat Wn)), some (.int (Int32.ofNat F)), some (.int (Int32.ofNat v)), some (.ref (2000000 + v)), some (.int (Int32.ofNat (alS (tx el n) A v (wlS v) 0)))]) rfl (Nat.le_of_ble_eq_true rfl) rfl ?_
    refine g_iload (i := 5) rfl rfl ?_
    refine g_aload (i := 4) rfl rfl ?_
    refine g_len rfl (by omega) (Nat.le_of_ble_eq_true rfl) (by omega) rfl ?_
    unfold wdS
    refine g_icmp_ne 65 rfl rfl (fun c1 => ?_) (fun c1 => ?_)
    · skip
      rw [if_neg (fun z => c1 (congrArg Int32.ofNat z))]
      refine g_iload_n (i := 2) rfl rfl ?_
      refine g_iload (i := 5) rfl rfl ?_
      refine g_max rfl (Nat.le_of_ble_eq_true rfl) ?_
      obtain ⟨F', hF', eF'⟩ : ∃ F' : Nat, F' ≤ 5 ∧ (if Int32.ofNat F < Int32.ofNat (alS (tx el n) A v (wlS v) 0) then Int32.ofNat (alS (tx el n) A v (wlS v) 0) else Int32.ofNat F) = Int32.ofNat F' := by
        split
        · exact ⟨_, by omega, rfl⟩
        · exact ⟨F, hF, rfl⟩
      rw [eF']
      refine g_istore_n (i := 2) (L1 := [some (.ref rp), some (.int (Int32.ofNat Wn)), some (.int (Int32.ofNat F')), some (.int (Int32.ofNat v)), some (.ref (2000000 + v)), some (.int (Int32.ofNat (alS (tx el n) A v (wlS v) 0)))]) rfl (Nat.le_of_ble_eq_true rfl) rfl ?_
      refine g_iinc (i := 3) (L1 := [some (.ref rp), some (.int (Int32.ofNat Wn)), some (.int (Int32.ofNat F')), some (.int ((Int32.ofNat v) + Int32.ofInt 1)), some (.ref (2000000 + v)), some (.int (Int32.ofNat (alS (tx el n) A v (wlS v) 0)))]) rfl rfl rfl ?_
      rw [ofN_add (by omega)]
      refine g_goto 23 rfl rfl ?_
      exact ih (v + 1) F' _ _ (by omega) hF'
    · skip
      have c2 : alS (tx el n) A v (wlS v) 0 = wlS v := by
        have := congrArg Int32.toInt c1
        rw [ea, ew] at this
        omega
      rw [if_pos c2]
      refine g_aload_n (i := 0) rfl rfl ?_
      refine g_dup rfl rfl ?_
      refine g_getfield (v := .int (Int32.ofNat A)) rfl hr (by decide) rfl ?_
      refine g_iload (i := 5) rfl rfl ?_
      have ee : Int32.ofNat A + Int32.ofNat (alS (tx el n) A v (wlS v) 0) = Int32.ofNat (A + wlS v) := by
        apply Int32.toInt_inj.mp
        rw [i_add (by rw [eA, ea]; omega) (by rw [eA, ea]; omega), eA, ea, ofN_toInt (by omega), c2]
        omega
      refine g_iadd rfl ?_
      rw [ee]
      refine g_putfield (h1 := h8.set rp (rd tp flt (A + wlS v))) rfl hr (by decide) (Nat.le_of_ble_eq_true rfl) rfl rfl ?_
      refine g_iload_n (i := 3) rfl rfl ?_
      refine g_ireturn (ty := .int) rfl rfl rfl ?_
      exact ⟨rfl, rfl⟩
theorem s_readWord {d : Nat} {h : sHp} {rp tp ep n A H : Nat} {ot flt : Int32} {el : Nat → Int64} {fs : List Value} (hr : h[rp]? = some (rd tp flt A)) (ht : h[tp]? = some (.inr (7, [.int ot, .int (Int32.ofNat n), .ref ep]))) (he : h[ep]? = some (.inl (1, 100, .inr (.inl el)))) (hn : n ≤ 100) (hA : A < 990) (hf : h[27]? = some (.inr (3, fs))) (f11 : fs[11]? = some (.int (Int32.ofNat H))) (hH : H ≤ 5) : sDo (d + 6) 70 [.ref rp] h (qWord rp tp flt A h (wdS (tx el n) A (if H < 5 then 7 else 6) 0)) := by
  have eH := ofN_toInt (n := H) (by omega)
  have e5 : (Int32.ofInt 5).toInt = 5 := rfl
  refine sDo_of (d := d + 5) (nL := 6) (L := [some (.ref rp), none, none, none, none, none]) rfl rfl ?_
  refine g_aload_n (i := 0) rfl rfl ?_
  refine g_getfield (v := .ref 27) rfl hr (by decide) rfl ?_
  refine g_getfield (v := .int (Int32.ofNat H)) rfl hf (by decide) f11 ?_
  refine g_iconst (n := 5) rfl ?_
  by_cases h5 : H < 5
  · skip
    rw [if_pos h5]
    refine g_icmp_ge 16 rfl rfl (fun hc => absurd hc (by rw [i_le, eH, e5]; omega)) (fun _ => ?_)
    refine g_bipush (n := 7) rfl ?_
    refine g_goto 18 rfl rfl ?_
    refine g_istore_n (i := 1) (L1 := [some (.ref rp), some (.int (Int8.ofInt 7).toInt32), none, none, none, none]) rfl (Nat.le_of_ble_eq_true rfl) rfl ?_
    refine g_iconst (n := 0) rfl ?_
    refine g_istore_n (i := 2) (L1 := [some (.ref rp), some (.int (Int8.ofInt 7).toInt32), some (.int (Int32.ofInt 0)), none, none, none]) rfl (Nat.le_of_ble_eq_true rfl) rfl ?_
    refine g_iconst (n := 0) rfl ?_
    refine g_istore_n (i := 3) (L1 := [some (.ref rp), some (.int (Int8.ofInt 7).toInt32), some (.int (Int32.ofInt 0)), some (.int (Int32.ofInt 0)), none, none]) rfl (Nat.le_of_ble_eq_true rfl) rfl ?_
    exact s_readWord_go hr ht he hn hA (by decide) (by omega) 7 0 0 _ _ rfl (by decide)
  · skip
    rw [if_neg h5]
    refine g_icmp_ge 16 rfl rfl (fun _ => ?_) (fun hc => absurd hc (by rw [i_le, eH, e5]; omega))
    refine g_bipush (n := 6) rfl ?_
    refine g_istore_n (i := 1) (L1 := [some (.ref rp), some (.int (Int8.ofInt 6).toInt32), none, none, none, none]) rfl (Nat.le_of_ble_eq_true rfl) rfl ?_
    refine g_iconst (n := 0) rfl ?_
    refine g_istore_n (i := 2) (L1 := [some (.ref rp), some (.int (Int8.ofInt 6).toInt32), some (.int (Int32.ofInt 0)), none, none, none]) rfl (Nat.le_of_ble_eq_true rfl) rfl ?_
    refine g_iconst (n := 0) rfl ?_
    refine g_istore_n (i := 3) (L1 := [some (.ref rp), some (.int (Int8.ofInt 6).toInt32), some (.int (Int32.ofInt 0)), some (.int (Int32.ofInt 0)), none, none]) rfl (Nat.le_of_ble_eq_true rfl) rfl ?_
    exact s_readWord_go hr ht he hn hA (by decide) (by omega) 6 0 0 _ _ rfl (by decide)
end
section
/-! ===== the class's field, exactly ===== -/
/-- a field of the class: its ints and longs by their places among the fields, its soils, shares, worths, fond, owned -/
def CF : Type := (Nat → Int32) × (Nat → Int64) × (Nat → Int64) × (Nat → Int32) × (Nat → Nat → Int32) × (Nat → Int32) × (Nat → Int64)
def fO (p : Nat) (I : Nat → Int32) (G : Nat → Int64) : va_E := .inr (3, [.int (I 0), .int (I 1), .long (G 2), .long (G 3), .long (G 4), .long (G 5), .long (G 6), .int (I 7), .int (I 8), .int (I 9), .int (I 10), .int (I 11), .ref (p + 1), .ref (p + 2), .ref (p + 3), .ref (p + 9), .ref (p + 10)])
def FC (h : sHp) (p : Nat) (c : CF) : Prop := h[p]? = some (fO p c.1 c.2.1) ∧ h[p + 1]? = some (.inl (1, 6, .inr (.inl c.2.2.1))) ∧ h[p + 2]? = some (.inl (0, 5, .inl c.2.2.2.1)) ∧ (∃ f : Nat → Option Nat, h[p + 3]? = some (.inl (5, 5, .inr (.inr (.inr (.inr f))))) ∧ ∀ k, k < 5 → f k = some (p + 4 + k)) ∧ (∀ k, k < 5 → h[p + 4 + k]? = some (.inl (0, 6, .inl (c.2.2.2.2.1 k)))) ∧ h[p + 9]? = some (.inl (2, 5, .inl c.2.2.2.2.2.1)) ∧ h[p + 10]? = some (.inl (1, 7, .inr (.inl c.2.2.2.2.2.2)))
/-- a cell outside a field -/
theorem FC_out {h : sHp} {p q : Nat} {c : CF} {x : va_E} (F : FC h p c) (hq : q < p ∨ p + 10 < q) : FC (h.set q x) p c := by
  obtain ⟨a0, a1, a2, ⟨f, a3, a4⟩, a5, a6, a7⟩ := F
  exact ⟨by rw [s_set_ne (by omega)]; exact a0, by rw [s_set_ne (by omega)]; exact a1, by rw [s_set_ne (by omega)]; exact a2, ⟨f, by rw [s_set_ne (by omega)]; exact a3, a4⟩, fun k hk => by rw [s_set_ne (by omega)]; exact a5 k hk, by rw [s_set_ne (by omega)]; exact a6, by rw [s_set_ne (by omega)]; exact a7⟩
theorem FC_0 {h : sHp} {p : Nat} {c : CF} {I : Nat → Int32} {G : Nat → Int64} (F : FC h p c) : FC (h.set p (fO p I G)) p (I, G, c.2.2) := by
  obtain ⟨a0, a1, a2, ⟨f, a3, a4⟩, a5, a6, a7⟩ := F
  exact ⟨s_set_eq a0, by rw [s_set_ne (by omega)]; exact a1, by rw [s_set_ne (by omega)]; exact a2, ⟨f, by rw [s_set_ne (by omega)]; exact a3, a4⟩, fun k hk => by rw [s_set_ne (by omega)]; exact a5 k hk, by rw [s_set_ne (by omega)]; exact a6, by rw [s_set_ne (by omega)]; exact a7⟩
theorem FC_1 {h : sHp} {p : Nat} {c : CF} {so : Nat → Int64} (F : FC h p c) : FC (h.set (p + 1) (.inl (1, 6, .inr (.inl so)))) p (c.1, c.2.1, so, c.2.2.2) := by
  obtain ⟨a0, a1, a2, ⟨f, a3, a4⟩, a5, a6, a7⟩ := F
  exact ⟨by rw [s_set_ne (by omega)]; exact a0, s_set_eq a1, by rw [s_set_ne (by omega)]; exact a2, ⟨f, by rw [s_set_ne (by omega)]; exact a3, a4⟩, fun k hk => by rw [s_set_ne (by omega)]; exact a5 k hk, by rw [s_set_ne (by omega)]; exact a6, by rw [s_set_ne (by omega)]; exact a7⟩
theorem FC_2 {h : sHp} {p : Nat} {c : CF} {sh : Nat → Int32} (F : FC h p c) : FC (h.set (p + 2) (.inl (0, 5, .inl sh))) p (c.1, c.2.1, c.2.2.1, sh, c.2.2.2.2) := by
  obtain ⟨a0, a1, a2, ⟨f, a3, a4⟩, a5, a6, a7⟩ := F
  exact ⟨by rw [s_set_ne (by omega)]; exact a0, by rw [s_set_ne (by omega)]; exact a1, s_set_eq a2, ⟨f, by rw [s_set_ne (by omega)]; exact a3, a4⟩, fun k hk => by rw [s_set_ne (by omega)]; exact a5 k hk, by rw [s_set_ne (by omega)]; exact a6, by rw [s_set_ne (by omega)]; exact a7⟩
theorem FC_4 {h : sHp} {p k0 : Nat} {c : CF} {w : Nat → Int32} (F : FC h p c) (hk0 : k0 < 5) : FC (h.set (p + 4 + k0) (.inl (0, 6, .inl w))) p (c.1, c.2.1, c.2.2.1, c.2.2.2.1, (fun k => if k = k0 then w else c.2.2.2.2.1 k), c.2.2.2.2.2) := by
  obtain ⟨a0, a1, a2, ⟨f, a3, a4⟩, a5, a6, a7⟩ := F
  refine ⟨by rw [s_set_ne (by omega)]; exact a0, by rw [s_set_ne (by omega)]; exact a1, by rw [s_set_ne (by omega)]; exact a2, ⟨f, by rw [s_set_ne (by omega)]; exact a3, a4⟩, fun k hk => ?_, by rw [s_set_ne (by omega)]; exact a6, by rw [s_set_ne (by omega)]; exact a7⟩
  by_cases e : k = k0
  · rw [e]
    show _ = (some (.inl (0, 6, .inl (if k0 = k0 then w else c.2.2.2.2.1 k0))) : Option va_E)
    rw [if_pos rfl]
    exact s_set_eq (a5 k0 hk0)
  · rw [s_set_ne (by omega)]
    show _ = (some (.inl (0, 6, .inl (if k = k0 then w else c.2.2.2.2.1 k))) : Option va_E)
    rw [if_neg e]
    exact a5 k hk
theorem FC_9 {h : sHp} {p : Nat} {c : CF} {fo : Nat → Int32} (F : FC h p c) : FC (h.set (p + 9) (.inl (2, 5, .inl fo))) p (c.1, c.2.1, c.2.2.1, c.2.2.2.1, c.2.2.2.2.1, fo, c.2.2.2.2.2.2) := by
  obtain ⟨a0, a1, a2, ⟨f, a3, a4⟩, a5, a6, a7⟩ := F
  exact ⟨by rw [s_set_ne (by omega)]; exact a0, by rw [s_set_ne (by omega)]; exact a1, by rw [s_set_ne (by omega)]; exact a2, ⟨f, by rw [s_set_ne (by omega)]; exact a3, a4⟩, fun k hk => by rw [s_set_ne (by omega)]; exact a5 k hk, s_set_eq a6, by rw [s_set_ne (by omega)]; exact a7⟩
theorem FC_10 {h : sHp} {p : Nat} {c : CF} {ow : Nat → Int64} (F : FC h p c) : FC (h.set (p + 10) (.inl (1, 7, .inr (.inl ow)))) p (c.1, c.2.1, c.2.2.1, c.2.2.2.1, c.2.2.2.2.1, c.2.2.2.2.2.1, ow) := by
  obtain ⟨a0, a1, a2, ⟨f, a3, a4⟩, a5, a6, a7⟩ := F
  exact ⟨by rw [s_set_ne (by omega)]; exact a0, by rw [s_set_ne (by omega)]; exact a1, by rw [s_set_ne (by omega)]; exact a2, ⟨f, by rw [s_set_ne (by omega)]; exact a3, a4⟩, fun k hk => by rw [s_set_ne (by omega)]; exact a5 k hk, by rw [s_set_ne (by omega)]; exact a6, s_set_eq a7⟩
/-- nothing but a field has changed -/
def fE (p : Nat) (h h' : sHp) : Prop := h'.length = h.length ∧ ∀ q, (q < p ∨ p + 10 < q) → h'[q]? = h[q]?
theorem fE_rfl {p : Nat} {h : sHp} : fE p h h := ⟨rfl, fun _ _ => rfl⟩
theorem fE_tr {p : Nat} {h h1 h2 : sHp} (a : fE p h h1) (b : fE p h1 h2) : fE p h h2 := ⟨b.1.trans a.1, fun q hq => (b.2 q hq).trans (a.2 q hq)⟩
theorem fE_set {p q : Nat} {h h1 : sHp} {x : va_E} (a : fE p h h1) (h0 : p ≤ q) (h1' : q ≤ p + 10) : fE p h (h1.set q x) := ⟨by rw [List.length_set]; exact a.1, fun q' hq => by rw [s_set_ne (by omega)]; exact a.2 q' hq⟩

theorem s_squares {d : Nat} {h : sHp} {p : Nat} {c : CF} (F : FC h p c) : sDo (d + 1) 21 [.ref p] h (fun r h' => h' = h ∧ r = some (.int (c.1 0 * c.1 1))) := by
  have a0 := F.1
  refine sDo_of (d := d) (nL := 1) (L := [some (.ref p)]) rfl rfl ?_
  refine g_aload_n (i := 0) rfl rfl ?_
  refine g_getfield (v := .int (c.1 0)) rfl a0 (by decide) rfl ?_
  refine g_aload_n (i := 0) rfl rfl ?_
  refine g_getfield (v := .int (c.1 1)) rfl a0 (by decide) rfl ?_
  refine g_imul rfl ?_
  refine g_ireturn (ty := .int) rfl rfl rfl ?_
  exact ⟨rfl, rfl⟩
theorem s_isHeir3 {d : Nat} {h : sHp} {p : Nat} {c : CF} {i b : Int32} (F : FC h p c) (hb : b = if 0 ≤ i.toInt ∧ i.toInt < (c.1 11).toInt ∧ i.toInt < 5 then 1 else 0) : sDo (d + 1) 23 [.ref p, .int i] h (fun r h' => h' = h ∧ r = some (.int b)) := by
  have a0 := F.1
  have e0 : (0 : Int32).toInt = 0 := rfl
  have e5 : (Int32.ofInt 5).toInt = 5 := rfl
  refine sDo_of (d := d) (nL := 2) (L := [some (.ref p), some (.int i)]) rfl rfl ?_
  refine g_iload_n (i := 1) rfl rfl ?_
  refine g_if_lt 21 rfl rfl (fun c1 => ?_) (fun c1 => ?_)
  · skip
    rw [i_lt, e0] at c1
    refine g_iconst (n := 0) rfl ?_
    refine g_ireturn (ty := .boolean) rfl rfl (by decide) ?_
    rw [hb, if_neg (by omega)]; exact ⟨rfl, rfl⟩
  · skip
    rw [i_lt, e0] at c1
    refine g_iload_n (i := 1) rfl rfl ?_
    refine g_aload_n (i := 0) rfl rfl ?_
    refine g_getfield (v := .int (c.1 11)) rfl a0 (by decide) rfl ?_
    refine g_icmp_ge 21 rfl rfl (fun c2 => ?_) (fun c2 => ?_)
    · skip
      rw [i_le] at c2
      refine g_iconst (n := 0) rfl ?_
      refine g_ireturn (ty := .boolean) rfl rfl (by decide) ?_
      rw [hb, if_neg (by omega)]; exact ⟨rfl, rfl⟩
    · skip
      rw [i_le] at c2
      refine g_iload_n (i := 1) rfl rfl ?_
      refine g_iconst (n := 5) rfl ?_
      refine g_icmp_ge 21 rfl rfl (fun c3 => ?_) (fun c3 => ?_)
      · skip
        rw [i_le, e5] at c3
        refine g_iconst (n := 0) rfl ?_
        refine g_ireturn (ty := .boolean) rfl rfl (by decide) ?_
        rw [hb, if_neg (by omega)]; exact ⟨rfl, rfl⟩
      · skip
        rw [i_le, e5] at c3
        refine g_iconst (n := 1) rfl ?_
        refine g_goto 22 rfl rfl ?_
        refine g_ireturn (ty := .boolean) rfl rfl (by decide) ?_
        rw [hb, if_pos (by omega)]; exact ⟨rfl, rfl⟩
theorem s_setPlace {d : Nat} {h : sHp} {p K : Nat} {c : CF} {wh v : Int32} (F : FC h p c) (hK : K ≤ 3) (hw : wh.toInt = K) : sDo (d + 1) 35 [.ref p, .int wh, .int v] h (fun r h' => r = none ∧ h' = h.set p (fO p (upd c.1 (7 + K) v) c.2.1)) := by
  have a0 := F.1
  have hF : sFk 35 1 = some (.tableswitch 51 0 2 #[27, 35, 43]) := rfl
  refine sDo_of (d := d) (nL := 3) (L := [some (.ref p), some (.int wh), some (.int v)]) rfl rfl ?_
  refine g_iload_n (i := 1) rfl rfl ?_
  match K, hK, hw with
  | 0, _, hw =>
    refine go_jmp (pc1 := 28) (st1 := []) hF rfl ?_ ?_
    · show (if wh.toInt < 0 ∨ 2 < wh.toInt then _ else (match #[(27 : Int), 35, 43][(wh.toInt - 0).toNat]? with
        | some off => (sTgt 1 off).map (fun t => (t, ([] : List Value)))
        | none => none)) = _
      rw [if_neg (by omega), show (wh.toInt - 0).toNat = 0 by omega]; rfl
    · skip
      refine g_aload_n (i := 0) rfl rfl ?_
      refine g_iload_n (i := 2) rfl rfl ?_
      refine g_putfield (h1 := h.set p (fO p (upd c.1 (7 + 0) v) c.2.1)) rfl a0 (by decide) (Nat.le_of_ble_eq_true rfl) rfl rfl ?_
      refine g_goto 57 rfl rfl ?_
      refine g_return rfl rfl ?_
      exact ⟨rfl, rfl⟩
  | 1, _, hw =>
    refine go_jmp (pc1 := 36) (st1 := []) hF rfl ?_ ?_
    · show (if wh.toInt < 0 ∨ 2 < wh.toInt then _ else (match #[(27 : Int), 35, 43][(wh.toInt - 0).toNat]? with
        | some off => (sTgt 1 off).map (fun t => (t, ([] : List Value)))
        | none => none)) = _
      rw [if_neg (by omega), show (wh.toInt - 0).toNat = 1 by omega]; rfl
    · skip
      refine g_aload_n (i := 0) rfl rfl ?_
      refine g_iload_n (i := 2) rfl rfl ?_
      refine g_putfield (h1 := h.set p (fO p (upd c.1 (7 + 1) v) c.2.1)) rfl a0 (by decide) (Nat.le_of_ble_eq_true rfl) rfl rfl ?_
      refine g_goto 57 rfl rfl ?_
      refine g_return rfl rfl ?_
      exact ⟨rfl, rfl⟩
  | 2, _, hw =>
    refine go_jmp (pc1 := 44) (st1 := []) hF rfl ?_ ?_
    · show (if wh.toInt < 0 ∨ 2 < wh.toInt then _ else (match #[(27 : Int), 35, 43][(wh.toInt - 0).toNat]? with
        | some off => (sTgt 1 off).map (fun t => (t, ([] : List Value)))
        | none => none)) = _
      rw [if_neg (by omega), show (wh.toInt - 0).toNat = 2 by omega]; rfl
    · skip
      refine g_aload_n (i := 0) rfl rfl ?_
      refine g_iload_n (i := 2) rfl rfl ?_
      refine g_putfield (h1 := h.set p (fO p (upd c.1 (7 + 2) v) c.2.1)) rfl a0 (by decide) (Nat.le_of_ble_eq_true rfl) rfl rfl ?_
      refine g_goto 57 rfl rfl ?_
      refine g_return rfl rfl ?_
      exact ⟨rfl, rfl⟩
  | 3, _, hw =>
    refine go_jmp (pc1 := 52) (st1 := []) hF rfl ?_ ?_
    · show (if wh.toInt < 0 ∨ 2 < wh.toInt then (sTgt 1 51).map (fun t => (t, ([] : List Value))) else _) = _
      rw [if_pos (by omega)]; rfl
    · skip
      refine g_aload_n (i := 0) rfl rfl ?_
      refine g_iload_n (i := 2) rfl rfl ?_
      refine g_putfield (h1 := h.set p (fO p (upd c.1 (7 + 3) v) c.2.1)) rfl a0 (by decide) (Nat.le_of_ble_eq_true rfl) rfl rfl ?_
      refine g_return rfl rfl ?_
      exact ⟨rfl, rfl⟩
  | k + 4, hK, _ => exact absurd hK (by omega)
def tenF (w : Nat → Int32) (k : Nat) : Nat → Int32 := fun i => if i < k then (Int8.ofInt 10).toInt32 else w i
theorem tenF_0 (w : Nat → Int32) : tenF w 0 = w := funext fun i => if_neg (Nat.not_lt_zero i)
theorem tenF_s (w : Nat → Int32) (k : Nat) : upd (tenF w k) k (Int8.ofInt 10).toInt32 = tenF w (k + 1) := funext fun i => by
  unfold upd tenF
  by_cases h : i = k
  · rw [if_pos h, if_pos (show i < k + 1 by omega)]
  · rw [if_neg h]
    by_cases h2 : i < k
    · rw [if_pos h2, if_pos (show i < k + 1 by omega)]
    · rw [if_neg h2, if_neg (show ¬ i < k + 1 by omega)]
theorem s_addHeir_go {d : Nat} {h : sHp} {p H : Nat} {I : Nat → Int32} {G : Nat → Int64} {f : Nat → Option Nat} {w : Nat → Int32} {share : Int32} {Q : Option Value → sHp → Prop} (a0 : h[p]? = some (fO p I G)) (a3 : h[p + 3]? = some (.inl (5, 5, .inr (.inr (.inr (.inr f)))))) (a4 : ∀ k, k < 5 → f k = some (p + 4 + k)) (a5 : h[p + 4 + H]? = some (.inl (0, 6, .inl w))) (hH : H < 5) (hI : I 11 = Int32.ofNat H) (hQ : ∀ x : Int32, sGo none 36 d 64 [some (.ref p), some (.int share), some (.int x)] [] (h.set (p + 4 + H) (.inl (0, 6, .inl (tenF w 6)))) Q) : ∀ (N : Nat) (k : Nat), k ≤ 6 → 6 - k < N → sGo none 36 d 39 [some (.ref p), some (.int share), some (.int (Int32.ofNat k))] [] (h.set (p + 4 + H) (.inl (0, 6, .inl (tenF w k)))) Q := by
  have eH := ofN_toInt (n := H) (by omega)
  have e6 : (Int8.ofInt 6).toInt32.toInt = 6 := rfl
  have fH : va_rf (f (I 11).toNatClampNeg) = .ref (p + 4 + H) := by rw [hI, i_nat eH, a4 H hH]; rfl
  have e11 : (I 11).toInt = H := by rw [hI, eH]
  intro N
  induction N with
  | zero => intro k _ hl; omega
  | succ N ih =>
    intro k hk hl
    have ek := ofN_toInt (n := k) (by omega)
    have a0' : (h.set (p + 4 + H) (.inl (0, 6, .inl (tenF w k))))[p]? = some (fO p I G) := by rw [s_set_ne (by omega)]; exact a0
    have a3' : (h.set (p + 4 + H) (.inl (0, 6, .inl (tenF w k))))[p + 3]? = some (.inl (5, 5, .inr (.inr (.inr (.inr f))))) := by rw [s_set_ne (by omega)]; exact a3
    refine g_iload_n (i := 2) rfl rfl ?_
    refine g_bipush (n := 6) rfl ?_
    refine g_icmp_ge 64 rfl rfl (fun hc => ?_) (fun hc => ?_)
    · skip
      rw [i_le, e6, ek] at hc
      have hk6 : k = 6 := by omega
      rw [hk6]
      exact hQ _
    · skip
      rw [i_le, e6, ek] at hc
      refine g_aload_n (i := 0) rfl rfl ?_
      refine g_getfield (v := .ref (p + 3)) rfl a0' (by decide) rfl ?_
      refine g_aload_n (i := 0) rfl rfl ?_
      refine g_getfield (v := .int (I 11)) rfl a0' (by decide) rfl ?_
      refine g_aaload rfl a3' (by decide) (i_in (by omega) (by omega)) ?_
      rw [fH]
      refine g_iload_n (i := 2) rfl rfl ?_
      refine g_bipush (n := 10) rfl ?_
      refine g_iastore (h1 := h.set (p + 4 + H) (.inl (0, 6, .inl (tenF w (k + 1))))) rfl (s_set_eq a5) (i_in (by omega) (by omega)) (by rw [i_nat ek, List.set_set]; exact congrArg (fun e => h.set (p + 4 + H) (.inl (0, 6, .inl e))) (tenF_s w k)) ?_
      refine g_iinc (i := 2) (L1 := [some (.ref p), some (.int share), some (.int ((Int32.ofNat k) + Int32.ofInt 1))]) rfl rfl rfl ?_
      rw [ofN_add (by omega)]
      refine g_goto 39 rfl rfl ?_
      exact ih (k + 1) (by omega) (by omega)
/-- one more heir -/
def cfHeir (H : Nat) (share : Int32) (c : CF) : CF := (upd c.1 11 (Int32.ofNat (H + 1)), c.2.1, c.2.2.1, upd c.2.2.2.1 H share, (fun k => if k = H then tenF (c.2.2.2.2.1 H) 6 else c.2.2.2.2.1 k), upd c.2.2.2.2.2.1 H 0, c.2.2.2.2.2.2)
theorem s_addHeir {d : Nat} {h : sHp} {p H : Nat} {c : CF} {share : Int32} (F : FC h p c) (hI : c.1 11 = Int32.ofNat H) (hH : H < 5) : sDo (d + 1) 36 [.ref p, .int share] h (fun r h' => r = some (.int (Int32.ofNat H)) ∧ FC h' p (cfHeir H share c) ∧ fE p h h') := by
  obtain ⟨I, G, so, sh, wo, fo, ow⟩ := c
  have hI : I 11 = Int32.ofNat H := hI
  have Fc := F
  obtain ⟨a0, a1, a2, ⟨f, a3, a4⟩, a5, a6, a7⟩ := F
  have eH := ofN_toInt (n := H) (by omega)
  have e11 : (I 11).toInt = H := by rw [hI, eH]
  have e0 : (0 : Int32).toInt = 0 := rfl
  have e5 : (Int32.ofInt 5).toInt = 5 := rfl
  have a0 : h[p]? = some (fO p I G) := a0
  refine sDo_of (d := d) (nL := 3) (L := [some (.ref p), some (.int share), none]) rfl rfl ?_
  refine g_aload_n (i := 0) rfl rfl ?_
  refine g_getfield (v := .int (I 11)) rfl a0 (by decide) rfl ?_
  refine g_if_lt 15 rfl rfl (fun hc => absurd hc (by rw [i_lt, e0]; omega)) (fun _ => ?_)
  refine g_aload_n (i := 0) rfl rfl ?_
  refine g_getfield (v := .int (I 11)) rfl a0 (by decide) rfl ?_
  refine g_iconst (n := 5) rfl ?_
  refine g_icmp_lt 17 rfl rfl (fun _ => ?_) (fun hc => absurd hc (by rw [i_lt, e5]; omega))
  refine g_aload_n (i := 0) rfl rfl ?_
  refine g_getfield (v := .ref (p + 2)) rfl a0 (by decide) rfl ?_
  refine g_aload_n (i := 0) rfl rfl ?_
  refine g_getfield (v := .int (I 11)) rfl a0 (by decide) rfl ?_
  refine g_iload_n (i := 1) rfl rfl ?_
  refine g_iastore (h1 := h.set (p + 2) (.inl (0, 5, .inl (upd sh H share)))) rfl a2 (i_in (by omega) (by omega)) (by rw [i_nat e11]) ?_
  have F1 := FC_2 (sh := upd sh H share) Fc
  have b0 : (h.set (p + 2) (.inl (0, 5, .inl (upd sh H share))))[p]? = some (fO p I G) := F1.1
  refine g_aload_n (i := 0) rfl rfl ?_
  refine g_getfield (v := .ref (p + 9)) rfl b0 (by decide) rfl ?_
  refine g_aload_n (i := 0) rfl rfl ?_
  refine g_getfield (v := .int (I 11)) rfl b0 (by decide) rfl ?_
  refine g_iconst (n := 0) rfl ?_
  refine g_bastore (h1 := ((h.set (p + 2) (.inl (0, 5, .inl (upd sh H share)))).set (p + 9) (.inl (2, 5, .inl (upd fo H 0))))) rfl F1.2.2.2.2.2.1 (Or.inl rfl) (i_in (by omega) (by omega)) (by rw [i_nat e11]; rfl) ?_
  have F2 := FC_9 (fo := upd fo H 0) F1
  have c0 : ((h.set (p + 2) (.inl (0, 5, .inl (upd sh H share)))).set (p + 9) (.inl (2, 5, .inl (upd fo H 0))))[p]? = some (fO p I G) := F2.1
  have F2c := F2
  obtain ⟨-, -, -, ⟨f', b3, b4⟩, b5, -⟩ := F2c
  refine g_iconst (n := 0) rfl ?_
  refine g_istore_n (i := 2) (L1 := [some (.ref p), some (.int share), some (.int (Int32.ofInt 0))]) rfl (Nat.le_of_ble_eq_true rfl) rfl ?_
  have key := s_addHeir_go (d := d) (share := share) (Q := fun r h' => r = some (.int (Int32.ofNat H)) ∧ FC h' p (cfHeir H share (I, G, so, sh, wo, fo, ow)) ∧ fE p h h') c0 b3 b4 (b5 H hH) hH hI (fun x => ?_) 7 0 (by decide) (by decide)
  · rw [tenF_0, s_set_self (b5 H hH)] at key
    exact key
  · skip
    have F3 := FC_4 (w := tenF (wo H) 6) F2 hH
    have d0 : (((h.set (p + 2) (.inl (0, 5, .inl (upd sh H share)))).set (p + 9) (.inl (2, 5, .inl (upd fo H 0)))).set (p + 4 + H) (.inl (0, 6, .inl (tenF (wo H) 6))))[p]? = some (fO p I G) := F3.1
    refine g_aload_n (i := 0) rfl rfl ?_
    refine g_dup rfl rfl ?_
    refine g_getfield (v := .int (I 11)) rfl d0 (by decide) rfl ?_
    refine g_iconst (n := 1) rfl ?_
    refine g_iadd rfl ?_
    rw [hI, ofN_add (by omega)]
    refine g_putfield (h1 := (((h.set (p + 2) (.inl (0, 5, .inl (upd sh H share)))).set (p + 9) (.inl (2, 5, .inl (upd fo H 0)))).set (p + 4 + H) (.inl (0, 6, .inl (tenF (wo H) 6)))).set p (fO p (upd I 11 (Int32.ofNat (H + 1))) G)) rfl d0 (by decide) (Nat.le_of_ble_eq_true rfl) rfl rfl ?_
    have F4 := FC_0 (I := upd I 11 (Int32.ofNat (H + 1))) (G := G) F3
    have g0 := F4.1
    refine g_aload_n (i := 0) rfl rfl ?_
    refine g_getfield (v := .int ((upd I 11 (Int32.ofNat (H + 1))) 11)) rfl g0 (by decide) rfl ?_
    refine g_iconst (n := 1) rfl ?_
    have eq : (upd I 11 (Int32.ofNat (H + 1)) 11) - Int32.ofInt 1 = Int32.ofNat H := by
      show Int32.ofNat (H + 1) - Int32.ofInt 1 = Int32.ofNat H
      rw [← ofN_add (by omega), Int32.add_sub_cancel]
    refine g_isub rfl ?_
    rw [eq]
    refine g_ireturn (ty := .int) rfl rfl rfl ?_
    exact ⟨rfl, F4, fE_set (fE_set (fE_set (fE_set fE_rfl (by omega) (by omega)) (by omega) (by omega)) (by omega) (by omega)) (by omega) (by omega)⟩
end
section
/-! ===== the class's field: sets, size ===== -/
def lowS (n : Int32) : Int64 := if n.toInt ≤ 0 then 0 else if 64 ≤ n.toInt then Int64.ofNat 18446744073709551615 else (Int64.ofNat 1 <<< (n.toInt64 &&& 63)) - Int64.ofNat 1
theorem s_lowest {d : Nat} {h : sHp} {n : Int32} : sDo (d + 1) 26 [.int n] h (fun r h' => h' = h ∧ r = some (.long (lowS n))) := by
  have e0 : (0 : Int32).toInt = 0 := rfl
  have e64 : (Int8.ofInt 64).toInt32.toInt = 64 := rfl
  unfold lowS
  refine sDo_of (d := d) (nL := 1) (L := [some (.int n)]) rfl rfl ?_
  refine g_iload_n (i := 0) rfl rfl ?_
  refine g_if_gt 6 rfl rfl (fun c1 => ?_) (fun c1 => ?_)
  · skip
    rw [i_lt, e0] at c1
    rw [if_neg (by omega)]
    refine g_iload_n (i := 0) rfl rfl ?_
    refine g_bipush (n := 64) rfl ?_
    refine g_icmp_lt 18 rfl rfl (fun c2 => ?_) (fun c2 => ?_)
    · skip
      rw [i_lt, e64] at c2
      rw [if_neg (by omega)]
      refine g_lconst (n := 1) rfl ?_
      refine g_iload_n (i := 0) rfl rfl ?_
      refine g_lshl rfl ?_
      refine g_lconst (n := 1) rfl ?_
      refine g_lsub rfl ?_
      refine g_lreturn rfl rfl ?_
      exact ⟨rfl, rfl⟩
    · skip
      rw [i_lt, e64] at c2
      rw [if_pos (by omega)]
      refine g_ldc2_w (j := 18446744073709551615) rfl ?_
      refine g_goto 23 rfl rfl ?_
      refine g_lreturn rfl rfl ?_
      exact ⟨rfl, rfl⟩
  · skip
    rw [i_lt, e0] at c1
    rw [if_pos (by omega)]
    refine g_lconst (n := 0) rfl ?_
    refine g_lreturn rfl rfl ?_
    exact ⟨rfl, rfl⟩
theorem s_below {d : Nat} {h : sHp} {p : Nat} {c : CF} {n : Int32} (F : FC h p c) : sDo (d + 2) 27 [.ref p, .int n] h (fun r h' => h' = h ∧ r = some (.long (lowS n &&& c.2.1 2))) := by
  have a0 := F.1
  refine sDo_of (d := d + 1) (nL := 2) (L := [some (.ref p), some (.int n)]) rfl rfl ?_
  refine g_iload_n (i := 1) rfl rfl ?_
  refine g_static1 (Qc := fun r h' => h' = h ∧ r = some (.long (lowS n))) rfl (by decide) rfl (Nat.le_of_ble_eq_true rfl) (s_lowest (d := d)) (fun r h9 hq9 => ?_)
  obtain ⟨rfl, rfl⟩ := hq9
  refine g_aload_n (i := 0) rfl rfl ?_
  refine g_getfield (v := .long (c.2.1 2)) rfl a0 (by decide) rfl ?_
  refine g_land rfl ?_
  refine g_lreturn rfl rfl ?_
  exact ⟨rfl, rfl⟩
/-- a set goes over to one of the sets -/
def gvF (el : Nat → Int64) (set : Int64) (k : Nat) : Nat → Int64 := fun i => if i < k then el i &&& (set ^^^ Int64.ofNat 18446744073709551615) else el i
theorem gvF_0 (el : Nat → Int64) (set : Int64) : gvF el set 0 = el := funext fun i => if_neg (Nat.not_lt_zero i)
theorem gvF_s (el : Nat → Int64) (set : Int64) (k : Nat) : vp_updL (gvF el set k) k (gvF el set k k &&& (set ^^^ Int64.ofNat 18446744073709551615)) = gvF el set (k + 1) := funext fun i => by
  unfold vp_updL gvF
  by_cases h : i = k
  · rw [if_pos h, if_neg (Nat.lt_irrefl k), if_pos (show i < k + 1 by omega), h]
  · rw [if_neg h]
    by_cases h2 : i < k
    · rw [if_pos h2, if_pos (show i < k + 1 by omega)]
    · rw [if_neg h2, if_neg (show ¬ i < k + 1 by omega)]
def giveS (el : Nat → Int64) (len : Nat) (set : Int64) (s : Nat) : Nat → Int64 := vp_updL (gvF el set len) s (gvF el set len s ||| set)
theorem s_give_go {d : Nat} {h : sHp} {q len : Nat} {el : Nat → Int64} {set : Int64} {slot : Int32} {S : Nat} (hq : h[q]? = some (.inl (1, len, .inr (.inl el)))) (hl : len ≤ 100) (hs : slot.toInt = S) (hS : S < len) : ∀ (N k : Nat), k ≤ len → len - k < N → sGo none 19 d 14 [some (.ref q), some (.long set), none, some (.int slot), some (.int (Int32.ofNat k))] [] (h.set q (.inl (1, len, .inr (.inl (gvF el set k))))) (fun r h' => r = none ∧ h' = h.set q (.inl (1, len, .inr (.inl (giveS el len set S))))) := by
  have el' := ofN_toInt (n := len) (by omega)
  intro N
  induction N with
  | zero => intro k _ hl; omega
  | succ N ih =>
    intro k hk hl'
    have ek := ofN_toInt (n := k) (by omega)
    have hq' : (h.set q (.inl (1, len, .inr (.inl (gvF el set k)))))[q]? = some (.inl (1, len, .inr (.inl (gvF el set k)))) := s_set_eq hq
    refine g_iload (i := 4) rfl rfl ?_
    refine g_aload_n (i := 0) rfl rfl ?_
    refine g_alen rfl hq' (by decide) ?_
    refine g_icmp_ge 39 rfl rfl (fun hc => ?_) (fun hc => ?_)
    · skip
      rw [i_le, el', ek] at hc
      have hkl : k = len := by omega
      subst hkl
      refine g_aload_n (i := 0) rfl rfl ?_
      refine g_iload_n (i := 3) rfl rfl ?_
      refine g_dup2 rfl rfl rfl ?_
      refine g_laload (n := k) (f := gvF el set k) rfl hq' (i_in (by omega) (by omega)) ?_
      rw [i_nat hs]
      refine g_lload_n (i := 1) rfl rfl ?_
      refine g_lor rfl ?_
      refine g_lastore (h1 := h.set q (.inl (1, k, .inr (.inl (giveS el k set S))))) rfl hq' (i_in (by omega) (by omega)) (by rw [i_nat hs, List.set_set]; rfl) ?_
      refine g_return rfl rfl ?_
      exact ⟨rfl, rfl⟩
    · skip
      rw [i_le, el', ek] at hc
      refine g_aload_n (i := 0) rfl rfl ?_
      refine g_iload (i := 4) rfl rfl ?_
      refine g_dup2 rfl rfl rfl ?_
      refine g_laload (n := len) (f := gvF el set k) rfl hq' (i_in (by omega) (by omega)) ?_
      rw [i_nat ek]
      refine g_lload_n (i := 1) rfl rfl ?_
      refine g_ldc2_w (j := 18446744073709551615) rfl ?_
      refine g_lxor rfl ?_
      refine g_land rfl ?_
      refine g_lastore (h1 := h.set q (.inl (1, len, .inr (.inl (gvF el set (k + 1)))))) rfl hq' (i_in (by omega) (by omega)) (by rw [i_nat ek, List.set_set]; exact congrArg (fun e => h.set q (.inl (1, len, .inr (.inl e)))) (gvF_s el set k)) ?_
      refine g_iinc (i := 4) (L1 := [some (.ref q), some (.long set), none, some (.int slot), some (.int ((Int32.ofNat k) + Int32.ofInt 1))]) rfl rfl rfl ?_
      rw [ofN_add (by omega)]
      refine g_goto 14 rfl rfl ?_
      exact ih (k + 1) (by omega) (by omega)
theorem s_give {d : Nat} {h : sHp} {q len : Nat} {el : Nat → Int64} {set : Int64} {slot : Int32} {S : Nat} (hq : h[q]? = some (.inl (1, len, .inr (.inl el)))) (hl : len ≤ 100) (hs : slot.toInt = S) (hS : S < len) : sDo (d + 1) 19 [.ref q, .long set, .int slot] h (fun r h' => r = none ∧ h' = h.set q (.inl (1, len, .inr (.inl (giveS el len set S))))) := by
  have el' := ofN_toInt (n := len) (by omega)
  have e0 : (0 : Int32).toInt = 0 := rfl
  refine sDo_of (d := d) (nL := 5) (L := [some (.ref q), some (.long set), none, some (.int slot), none]) rfl rfl ?_
  refine g_iload_n (i := 3) rfl rfl ?_
  refine g_if_lt 10 rfl rfl (fun hc => absurd hc (by rw [i_lt, e0]; omega)) (fun _ => ?_)
  refine g_iload_n (i := 3) rfl rfl ?_
  refine g_aload_n (i := 0) rfl rfl ?_
  refine g_alen rfl hq (by decide) ?_
  refine g_icmp_lt 11 rfl rfl (fun _ => ?_) (fun hc => absurd hc (by rw [i_lt, el']; omega))
  refine g_iconst (n := 0) rfl ?_
  refine g_istore (i := 4) (L1 := [some (.ref q), some (.long set), none, some (.int slot), some (.int (Int32.ofInt 0))]) rfl (Nat.le_of_ble_eq_true rfl) rfl ?_
  have h0 := s_give_go (d := d) (set := set) hq hl hs hS (len + 1) 0 (Nat.zero_le _) (by omega)
  rw [gvF_0, s_set_self hq] at h0
  exact h0
theorem s_laySoil {d : Nat} {h : sHp} {p : Nat} {c : CF} {set : Int64} {v : Int32} {V : Nat} (F : FC h p c) (hv : v.toInt = V) (hV : V < 6) : sDo (d + 2) 33 [.ref p, .long set, .int v] h (fun r h' => r = none ∧ h' = h.set (p + 1) (.inl (1, 6, .inr (.inl (giveS c.2.2.1 6 set V))))) := by
  have a0 := F.1
  refine sDo_of (d := d + 1) (nL := 4) (L := [some (.ref p), some (.long set), none, some (.int v)]) rfl rfl ?_
  refine g_aload_n (i := 0) rfl rfl ?_
  refine g_getfield (v := .ref (p + 1)) rfl a0 (by decide) rfl ?_
  refine g_lload_n (i := 1) rfl rfl ?_
  refine g_iload_n (i := 3) rfl rfl ?_
  refine g_static3 (Qc := fun r h' => r = none ∧ h' = h.set (p + 1) (.inl (1, 6, .inr (.inl (giveS c.2.2.1 6 set V))))) rfl (by decide) rfl (Nat.le_of_ble_eq_true rfl) (s_give (d := d) F.2.1 (by decide) hv hV) (fun r h9 hq9 => ?_)
  obtain ⟨rfl, rfl⟩ := hq9
  refine g_return rfl rfl ?_
  exact ⟨rfl, rfl⟩
def zrF (el : Nat → Int64) (k : Nat) : Nat → Int64 := fun i => if i < k then Int64.ofNat 0 else el i
theorem zrF_0 (el : Nat → Int64) : zrF el 0 = el := funext fun i => if_neg (Nat.not_lt_zero i)
theorem zrF_s (el : Nat → Int64) (k : Nat) : vp_updL (zrF el k) k (Int64.ofNat 0) = zrF el (k + 1) := funext fun i => by
  unfold vp_updL zrF
  by_cases h : i = k
  · rw [if_pos h, if_pos (show i < k + 1 by omega)]
  · rw [if_neg h]
    by_cases h2 : i < k
    · rw [if_pos h2, if_pos (show i < k + 1 by omega)]
    · rw [if_neg h2, if_neg (show ¬ i < k + 1 by omega)]
theorem s_empty_go {d : Nat} {h : sHp} {q len : Nat} {el : Nat → Int64} (hq : h[q]? = some (.inl (1, len, .inr (.inl el)))) (hl : len ≤ 100) : ∀ (N k : Nat), k ≤ len → len - k < N → sGo none 20 d 2 [some (.ref q), some (.int (Int32.ofNat k))] [] (h.set q (.inl (1, len, .inr (.inl (zrF el k))))) (fun r h' => r = none ∧ h' = h.set q (.inl (1, len, .inr (.inl (zrF el len))))) := by
  have el' := ofN_toInt (n := len) (by omega)
  intro N
  induction N with
  | zero => intro k _ hl; omega
  | succ N ih =>
    intro k hk hl'
    have ek := ofN_toInt (n := k) (by omega)
    have hq' : (h.set q (.inl (1, len, .inr (.inl (zrF el k)))))[q]? = some (.inl (1, len, .inr (.inl (zrF el k)))) := s_set_eq hq
    refine g_iload_n (i := 1) rfl rfl ?_
    refine g_aload_n (i := 0) rfl rfl ?_
    refine g_alen rfl hq' (by decide) ?_
    refine g_icmp_ge 18 rfl rfl (fun hc => ?_) (fun hc => ?_)
    · skip
      rw [i_le, el', ek] at hc
      have hkl : k = len := by omega
      subst hkl
      refine g_return rfl rfl ?_
      exact ⟨rfl, rfl⟩
    · skip
      rw [i_le, el', ek] at hc
      refine g_aload_n (i := 0) rfl rfl ?_
      refine g_iload_n (i := 1) rfl rfl ?_
      refine g_lconst (n := 0) rfl ?_
      refine g_lastore (h1 := h.set q (.inl (1, len, .inr (.inl (zrF el (k + 1)))))) rfl hq' (i_in (by omega) (by omega)) (by rw [i_nat ek, List.set_set]; exact congrArg (fun e => h.set q (.inl (1, len, .inr (.inl e)))) (zrF_s el k)) ?_
      refine g_iinc (i := 1) (L1 := [some (.ref q), some (.int ((Int32.ofNat k) + Int32.ofInt 1))]) rfl rfl rfl ?_
      rw [ofN_add (by omega)]
      refine g_goto 2 rfl rfl ?_
      exact ih (k + 1) (by omega) (by omega)
theorem s_empty {d : Nat} {h : sHp} {q len : Nat} {el : Nat → Int64} (hq : h[q]? = some (.inl (1, len, .inr (.inl el)))) (hl : len ≤ 100) : sDo (d + 1) 20 [.ref q] h (fun r h' => r = none ∧ h' = h.set q (.inl (1, len, .inr (.inl (zrF el len))))) := by
  refine sDo_of (d := d) (nL := 2) (L := [some (.ref q), none]) rfl rfl ?_
  refine g_iconst (n := 0) rfl ?_
  refine g_istore_n (i := 1) (L1 := [some (.ref q), some (.int (Int32.ofInt 0))]) rfl (Nat.le_of_ble_eq_true rfl) rfl ?_
  have h0 := s_empty_go (d := d) hq hl (len + 1) 0 (Nat.zero_le _) (by omega)
  rw [zrF_0, s_set_self hq] at h0
  exact h0
def fcS (w : Int32) : Nat → Int64
  | 0 => Int64.ofNat 0
  | r + 1 => fcS w r ||| (Int64.ofNat 1 <<< ((Int32.ofNat r * w).toInt64 &&& 63))
def szI (w hh : Int32) (I : Nat → Int32) : Nat → Int32 := upd (upd (upd (upd I 0 w) 1 hh) 8 (Int32.ofInt (-1))) 9 (Int32.ofInt (-1))
def szG (w hh : Int32) (G : Nat → Int64) : Nat → Int64 := vp_updL (vp_updL (vp_updL (vp_updL (vp_updL G 2 (lowS (w * hh))) 3 (fcS w hh.toInt.toNat)) 4 (fcS w hh.toInt.toNat <<< ((w - Int32.ofInt 1).toInt64 &&& 63))) 5 (lowS w)) 6 (lowS w <<< ((w * (hh - Int32.ofInt 1)).toInt64 &&& 63))
def cfSize (w hh : Int32) (c : CF) : CF := (szI w hh c.1, szG w hh c.2.1, vp_updL (zrF c.2.2.1 6) 0 (lowS (w * hh)), c.2.2.2.1, c.2.2.2.2.1, c.2.2.2.2.2.1, vp_updL (zrF c.2.2.2.2.2.2 7) 6 (lowS (w * hh)))
theorem s_resize_go {d : Nat} {h : sHp} {p : Nat} {I : Nat → Int32} {G : Nat → Int64} {w hh : Int32} {Q : Option Value → sHp → Prop} (a0 : ∃ x, h[p]? = some x) (w0 : I 0 = w) (w1 : I 1 = hh) (h0 : 0 ≤ hh.toInt) (h8 : hh.toInt ≤ 8) (hQ : ∀ x : Int32, sGo none 17 d 64 [some (.ref p), some (.int w), some (.int hh), some (.int x)] [] (h.set p (fO p I (vp_updL G 3 (fcS w hh.toInt.toNat)))) Q) : ∀ (N k : Nat), k ≤ hh.toInt.toNat → hh.toInt.toNat - k < N → sGo none 17 d 33 [some (.ref p), some (.int w), some (.int hh), some (.int (Int32.ofNat k))] [] (h.set p (fO p I (vp_updL G 3 (fcS w k)))) Q := by
  obtain ⟨x0, hx0⟩ := a0
  intro N
  induction N with
  | zero => intro k _ hl; omega
  | succ N ih =>
    intro k hk hl'
    have ek := ofN_toInt (n := k) (by omega)
    have a0' : (h.set p (fO p I (vp_updL G 3 (fcS w k))))[p]? = some (fO p I (vp_updL G 3 (fcS w k))) := s_set_eq hx0
    refine g_iload_n (i := 3) rfl rfl ?_
    refine g_aload_n (i := 0) rfl rfl ?_
    refine g_getfield (v := .int (I 1)) rfl a0' (by decide) rfl ?_
    refine g_icmp_ge 64 rfl rfl (fun hc => ?_) (fun hc => ?_)
    · skip
      rw [w1, i_le, ek] at hc
      have hkl : k = hh.toInt.toNat := by omega
      rw [hkl]
      exact hQ _
    · skip
      rw [w1, i_le, ek] at hc
      refine g_aload_n (i := 0) rfl rfl ?_
      refine g_dup rfl rfl ?_
      refine g_getfield (v := .long ((vp_updL G 3 (fcS w k)) 3)) rfl a0' (by decide) rfl ?_
      refine g_lconst (n := 1) rfl ?_
      refine g_iload_n (i := 3) rfl rfl ?_
      refine g_aload_n (i := 0) rfl rfl ?_
      refine g_getfield (v := .int (I 0)) rfl a0' (by decide) rfl ?_
      refine g_imul rfl ?_
      refine g_lshl rfl ?_
      refine g_lor rfl ?_
      rw [w0]
      refine g_putfield (h1 := h.set p (fO p I (vp_updL G 3 (fcS w (k + 1))))) rfl a0' (by decide) (Nat.le_of_ble_eq_true rfl) rfl (List.set_set ..) ?_
      refine g_iinc (i := 3) (L1 := [some (.ref p), some (.int w), some (.int hh), some (.int ((Int32.ofNat k) + Int32.ofInt 1))]) rfl rfl rfl ?_
      rw [ofN_add (by omega)]
      refine g_goto 33 rfl rfl ?_
      exact ih (k + 1) (by omega) (by omega)
theorem s_resize {d : Nat} {h : sHp} {p : Nat} {c : CF} {w hh : Int32} (F : FC h p c) (h0 : 0 ≤ hh.toInt) (h8 : hh.toInt ≤ 8) : sDo (d + 2) 17 [.ref p, .int w, .int hh] h (fun r h' => r = none ∧ FC h' p (cfSize w hh c) ∧ fE p h h') := by
  obtain ⟨I, G, so, sh, wo, fo, ow⟩ := c
  have a0 : h[p]? = some (fO p I G) := F.1
  have sS : ∀ I G I' G', (h.set p (fO p I G)).set p (fO p I' G') = h.set p (fO p I' G') := fun _ _ _ _ => List.set_set ..
  have at_ : ∀ I G, (h.set p (fO p I G))[p]? = some (fO p I G) := fun _ _ => s_set_eq a0
  refine sDo_of (d := d + 1) (nL := 4) (L := [some (.ref p), some (.int w), some (.int hh), none]) rfl rfl ?_
  refine g_aload_n (i := 0) rfl rfl ?_
  refine g_iload_n (i := 1) rfl rfl ?_
  refine g_putfield (h1 := h.set p (fO p (upd I 0 w) G)) rfl a0 (by decide) (Nat.le_of_ble_eq_true rfl) rfl rfl ?_
  refine g_aload_n (i := 0) rfl rfl ?_
  refine g_iload_n (i := 2) rfl rfl ?_
  refine g_putfield (h1 := h.set p (fO p (upd (upd I 0 w) 1 hh) G)) rfl (at_ _ _) (by decide) (Nat.le_of_ble_eq_true rfl) rfl (List.set_set ..) ?_
  refine g_aload_n (i := 0) rfl rfl ?_
  refine g_aload_n (i := 0) rfl rfl ?_
  refine g_getfield (v := .int ((upd (upd I 0 w) 1 hh) 0)) rfl (at_ _ _) (by decide) rfl ?_
  refine g_aload_n (i := 0) rfl rfl ?_
  refine g_getfield (v := .int ((upd (upd I 0 w) 1 hh) 1)) rfl (at_ _ _) (by decide) rfl ?_
  refine g_imul rfl ?_
  refine g_static1 (Qc := fun r h' => h' = h.set p (fO p (upd (upd I 0 w) 1 hh) G) ∧ r = some (.long (lowS (w * hh)))) rfl (by decide) rfl (Nat.le_of_ble_eq_true rfl) (sDo_up (d := 1) (by omega) (s_lowest (d := 0))) (fun r h9 hq9 => ?_)
  obtain ⟨rfl, rfl⟩ := hq9
  refine g_putfield (h1 := h.set p (fO p (upd (upd I 0 w) 1 hh) (vp_updL G 2 (lowS (w * hh))))) rfl (at_ _ _) (by decide) (Nat.le_of_ble_eq_true rfl) rfl (List.set_set ..) ?_
  refine g_aload_n (i := 0) rfl rfl ?_
  refine g_lconst (n := 0) rfl ?_
  refine g_putfield (h1 := h.set p (fO p (upd (upd I 0 w) 1 hh) (vp_updL (vp_updL G 2 (lowS (w * hh))) 3 (Int64.ofNat 0)))) rfl (at_ _ _) (by decide) (Nat.le_of_ble_eq_true rfl) rfl (List.set_set ..) ?_
  refine g_iconst (n := 0) rfl ?_
  refine g_istore_n (i := 3) (L1 := [some (.ref p), some (.int w), some (.int hh), some (.int (Int32.ofInt 0))]) rfl (Nat.le_of_ble_eq_true rfl) rfl ?_
  have key := s_resize_go (d := d + 1) (p := p) (I := (upd (upd I 0 w) 1 hh)) (G := (vp_updL G 2 (lowS (w * hh)))) (w := w) (hh := hh) (Q := fun r h' => r = none ∧ FC h' p (cfSize w hh (I, G, so, sh, wo, fo, ow)) ∧ fE p h h') ⟨_, a0⟩ rfl rfl h0 h8 (fun x => ?_) (hh.toInt.toNat + 1) 0 (Nat.zero_le _) (by omega)
  · exact key
  · skip
    refine g_aload_n (i := 0) rfl rfl ?_
    refine g_aload_n (i := 0) rfl rfl ?_
    refine g_getfield (v := .long ((vp_updL (vp_updL G 2 (lowS (w * hh))) 3 (fcS w hh.toInt.toNat)) 3)) rfl (at_ _ _) (by decide) rfl ?_
    refine g_aload_n (i := 0) rfl rfl ?_
    refine g_getfield (v := .int ((upd (upd I 0 w) 1 hh) 0)) rfl (at_ _ _) (by decide) rfl ?_
    refine g_iconst (n := 1) rfl ?_
    refine g_isub rfl ?_
    refine g_lshl rfl ?_
    refine g_putfield (h1 := h.set p (fO p (upd (upd I 0 w) 1 hh) (vp_updL (vp_updL (vp_updL G 2 (lowS (w * hh))) 3 (fcS w hh.toInt.toNat)) 4 (fcS w hh.toInt.toNat <<< ((w - Int32.ofInt 1).toInt64 &&& 63))))) rfl (at_ _ _) (by decide) (Nat.le_of_ble_eq_true rfl) rfl (List.set_set ..) ?_
    refine g_aload_n (i := 0) rfl rfl ?_
    refine g_aload_n (i := 0) rfl rfl ?_
    refine g_getfield (v := .int ((upd (upd I 0 w) 1 hh) 0)) rfl (at_ _ _) (by decide) rfl ?_
    refine g_static1 (Qc := fun r h' => h' = h.set p (fO p (upd (upd I 0 w) 1 hh) (vp_updL (vp_updL (vp_updL G 2 (lowS (w * hh))) 3 (fcS w hh.toInt.toNat)) 4 (fcS w hh.toInt.toNat <<< ((w - Int32.ofInt 1).toInt64 &&& 63)))) ∧ r = some (.long (lowS w))) rfl (by decide) rfl (Nat.le_of_ble_eq_true rfl) (sDo_up (d := 1) (by omega) (s_lowest (d := 0))) (fun r h9 hq9 => ?_)
    obtain ⟨rfl, rfl⟩ := hq9
    refine g_putfield (h1 := h.set p (fO p (upd (upd I 0 w) 1 hh) (vp_updL (vp_updL (vp_updL (vp_updL G 2 (lowS (w * hh))) 3 (fcS w hh.toInt.toNat)) 4 (fcS w hh.toInt.toNat <<< ((w - Int32.ofInt 1).toInt64 &&& 63))) 5 (lowS w)))) rfl (at_ _ _) (by decide) (Nat.le_of_ble_eq_true rfl) rfl (List.set_set ..) ?_
    refine g_aload_n (i := 0) rfl rfl ?_
    refine g_aload_n (i := 0) rfl rfl ?_
    refine g_getfield (v := .long ((vp_updL (vp_updL (vp_updL (vp_updL G 2 (lowS (w * hh))) 3 (fcS w hh.toInt.toNat)) 4 (fcS w hh.toInt.toNat <<< ((w - Int32.ofInt 1).toInt64 &&& 63))) 5 (lowS w)) 5)) rfl (at_ _ _) (by decide) rfl ?_
    refine g_aload_n (i := 0) rfl rfl ?_
    refine g_getfield (v := .int ((upd (upd I 0 w) 1 hh) 0)) rfl (at_ _ _) (by decide) rfl ?_
    refine g_aload_n (i := 0) rfl rfl ?_
    refine g_getfield (v := .int ((upd (upd I 0 w) 1 hh) 1)) rfl (at_ _ _) (by decide) rfl ?_
    refine g_iconst (n := 1) rfl ?_
    refine g_isub rfl ?_
    refine g_imul rfl ?_
    refine g_lshl rfl ?_
    refine g_putfield (h1 := h.set p (fO p (upd (upd I 0 w) 1 hh) (vp_updL (vp_updL (vp_updL (vp_updL (vp_updL G 2 (lowS (w * hh))) 3 (fcS w hh.toInt.toNat)) 4 (fcS w hh.toInt.toNat <<< ((w - Int32.ofInt 1).toInt64 &&& 63))) 5 (lowS w)) 6 (lowS w <<< ((w * (hh - Int32.ofInt 1)).toInt64 &&& 63))))) rfl (at_ _ _) (by decide) (Nat.le_of_ble_eq_true rfl) rfl (List.set_set ..) ?_
    refine g_aload_n (i := 0) rfl rfl ?_
    refine g_iconst (n := (-1)) rfl ?_
    refine g_putfield (h1 := h.set p (fO p (upd (upd (upd I 0 w) 1 hh) 8 (Int32.ofInt (-1))) (vp_updL (vp_updL (vp_updL (vp_updL (vp_updL G 2 (lowS (w * hh))) 3 (fcS w hh.toInt.toNat)) 4 (fcS w hh.toInt.toNat <<< ((w - Int32.ofInt 1).toInt64 &&& 63))) 5 (lowS w)) 6 (lowS w <<< ((w * (hh - Int32.ofInt 1)).toInt64 &&& 63))))) rfl (at_ _ _) (by decide) (Nat.le_of_ble_eq_true rfl) rfl (List.set_set ..) ?_
    refine g_aload_n (i := 0) rfl rfl ?_
    refine g_iconst (n := (-1)) rfl ?_
    refine g_putfield (h1 := h.set p (fO p (upd (upd (upd (upd I 0 w) 1 hh) 8 (Int32.ofInt (-1))) 9 (Int32.ofInt (-1))) (vp_updL (vp_updL (vp_updL (vp_updL (vp_updL G 2 (lowS (w * hh))) 3 (fcS w hh.toInt.toNat)) 4 (fcS w hh.toInt.toNat <<< ((w - Int32.ofInt 1).toInt64 &&& 63))) 5 (lowS w)) 6 (lowS w <<< ((w * (hh - Int32.ofInt 1)).toInt64 &&& 63))))) rfl (at_ _ _) (by decide) (Nat.le_of_ble_eq_true rfl) rfl (List.set_set ..) ?_
    have F1 : FC (h.set p (fO p (upd (upd (upd (upd I 0 w) 1 hh) 8 (Int32.ofInt (-1))) 9 (Int32.ofInt (-1))) (vp_updL (vp_updL (vp_updL (vp_updL (vp_updL G 2 (lowS (w * hh))) 3 (fcS w hh.toInt.toNat)) 4 (fcS w hh.toInt.toNat <<< ((w - Int32.ofInt 1).toInt64 &&& 63))) 5 (lowS w)) 6 (lowS w <<< ((w * (hh - Int32.ofInt 1)).toInt64 &&& 63))))) p (szI w hh I, szG w hh G, so, sh, wo, fo, ow) := FC_0 F
    have E1 : fE p h (h.set p (fO p (upd (upd (upd (upd I 0 w) 1 hh) 8 (Int32.ofInt (-1))) 9 (Int32.ofInt (-1))) (vp_updL (vp_updL (vp_updL (vp_updL (vp_updL G 2 (lowS (w * hh))) 3 (fcS w hh.toInt.toNat)) 4 (fcS w hh.toInt.toNat <<< ((w - Int32.ofInt 1).toInt64 &&& 63))) 5 (lowS w)) 6 (lowS w <<< ((w * (hh - Int32.ofInt 1)).toInt64 &&& 63))))) := fE_set fE_rfl (by omega) (by omega)
    generalize h.set p (fO p (upd (upd (upd (upd I 0 w) 1 hh) 8 (Int32.ofInt (-1))) 9 (Int32.ofInt (-1))) (vp_updL (vp_updL (vp_updL (vp_updL (vp_updL G 2 (lowS (w * hh))) 3 (fcS w hh.toInt.toNat)) 4 (fcS w hh.toInt.toNat <<< ((w - Int32.ofInt 1).toInt64 &&& 63))) 5 (lowS w)) 6 (lowS w <<< ((w * (hh - Int32.ofInt 1)).toInt64 &&& 63)))) = h1 at F1 E1
    refine g_aload_n (i := 0) rfl rfl ?_
    refine g_getfield (v := .ref (p + 1)) rfl F1.1 (by decide) rfl ?_
    refine g_static1 (Qc := fun r h' => r = none ∧ h' = h1.set (p + 1) (.inl (1, 6, .inr (.inl (zrF so 6))))) rfl (by decide) rfl (Nat.le_of_ble_eq_true rfl) (sDo_up (d := 1) (by omega) (s_empty (d := 0) F1.2.1 (by decide))) (fun r h9 hq9 => ?_)
    obtain ⟨rfl, rfl⟩ := hq9
    have F2 := FC_1 (so := zrF so 6) F1
    refine g_aload_n (i := 0) rfl rfl ?_
    refine g_getfield (v := .ref (p + 1)) rfl F2.1 (by decide) rfl ?_
    refine g_iconst (n := 0) rfl ?_
    refine g_aload_n (i := 0) rfl rfl ?_
    refine g_getfield (v := .long ((szG w hh G) 2)) rfl F2.1 (by decide) rfl ?_
    refine g_lastore rfl F2.2.1 (i_in (by decide) (by decide)) rfl ?_
    have F3 := FC_1 (so := vp_updL (zrF so 6) 0 (lowS (w * hh))) F2
    have E3 : fE p h ((h1.set (p + 1) (.inl (1, 6, .inr (.inl (zrF so 6))))).set (p + 1) (.inl (1, 6, .inr (.inl (vp_updL (zrF so 6) 0 (lowS (w * hh))))))) := fE_set (fE_set E1 (by omega) (by omega)) (by omega) (by omega)
    show sGo none 17 (d + 1) 137 _ [] ((h1.set (p + 1) (.inl (1, 6, .inr (.inl (zrF so 6))))).set (p + 1) (.inl (1, 6, .inr (.inl (vp_updL (zrF so 6) 0 (lowS (w * hh))))))) _
    generalize (h1.set (p + 1) (.inl (1, 6, .inr (.inl (zrF so 6))))).set (p + 1) (.inl (1, 6, .inr (.inl (vp_updL (zrF so 6) 0 (lowS (w * hh)))))) = h2 at F3 E3
    refine g_aload_n (i := 0) rfl rfl ?_
    refine g_getfield (v := .ref (p + 10)) rfl F3.1 (by decide) rfl ?_
    refine g_static1 (Qc := fun r h' => r = none ∧ h' = h2.set (p + 10) (.inl (1, 7, .inr (.inl (zrF ow 7))))) rfl (by decide) rfl (Nat.le_of_ble_eq_true rfl) (sDo_up (d := 1) (by omega) (s_empty (d := 0) F3.2.2.2.2.2.2 (by decide))) (fun r h9 hq9 => ?_)
    obtain ⟨rfl, rfl⟩ := hq9
    have F4 := FC_10 (ow := zrF ow 7) F3
    refine g_aload_n (i := 0) rfl rfl ?_
    refine g_getfield (v := .ref (p + 10)) rfl F4.1 (by decide) rfl ?_
    refine g_bipush (n := 6) rfl ?_
    refine g_aload_n (i := 0) rfl rfl ?_
    refine g_getfield (v := .long ((szG w hh G) 2)) rfl F4.1 (by decide) rfl ?_
    refine g_lastore rfl F4.2.2.2.2.2.2 (i_in (by decide) (by decide)) rfl ?_
    refine g_return rfl rfl ?_
    exact ⟨rfl, FC_10 (ow := vp_updL (zrF ow 7) 6 (lowS (w * hh))) F4, fE_set (fE_set E3 (by omega) (by omega)) (by omega) (by omega)⟩
end
section
/-! ===== the class's field: become ===== -/
def cpL (a b : Nat → Int64) (k : Nat) : Nat → Int64 := fun i => if i < k then a i else b i
theorem cpL_0 (a b : Nat → Int64) : cpL a b 0 = b := funext fun i => if_neg (Nat.not_lt_zero i)
theorem cpL_s (a b : Nat → Int64) (k : Nat) : vp_updL (cpL a b k) k (a k) = cpL a b (k + 1) := funext fun i => by
  unfold vp_updL cpL
  by_cases h : i = k
  · rw [if_pos h, if_pos (show i < k + 1 by omega), h]
  · rw [if_neg h]
    by_cases h2 : i < k
    · rw [if_pos h2, if_pos (show i < k + 1 by omega)]
    · rw [if_neg h2, if_neg (show ¬ i < k + 1 by omega)]
def cpI (a b : Nat → Int32) (k : Nat) : Nat → Int32 := fun i => if i < k then a i else b i
theorem cpI_0 (a b : Nat → Int32) : cpI a b 0 = b := funext fun i => if_neg (Nat.not_lt_zero i)
theorem cpI_s (a b : Nat → Int32) (k : Nat) : upd (cpI a b k) k (a k) = cpI a b (k + 1) := funext fun i => by
  unfold upd cpI
  by_cases h : i = k
  · rw [if_pos h, if_pos (show i < k + 1 by omega), h]
  · rw [if_neg h]
    by_cases h2 : i < k
    · rw [if_pos h2, if_pos (show i < k + 1 by omega)]
    · rw [if_neg h2, if_neg (show ¬ i < k + 1 by omega)]
theorem FC_fr {h h' : sHp} {p q : Nat} {c : CF} (F : FC h q c) (E : fE p h h') (hd : q + 10 < p ∨ p + 10 < q) : FC h' q c := by
  obtain ⟨a0, a1, a2, ⟨f, a3, a4⟩, a5, a6, a7⟩ := F
  have e := E.2
  exact ⟨(e q (by omega)).trans a0, (e _ (by omega)).trans a1, (e _ (by omega)).trans a2, ⟨f, (e _ (by omega)).trans a3, a4⟩, fun k hk => (e _ (by omega)).trans (a5 k hk), (e _ (by omega)).trans a6, (e _ (by omega)).trans a7⟩
/-- what a field is once it has become another: its ints and longs first -/
def bcI (a b : Nat → Int32) : Nat → Int32 := (upd (upd (upd (upd (upd (upd (upd b 0 (a 0)) 1 (a 1)) 7 (a 7)) 8 (a 8)) 9 (a 9)) 10 (a 10)) 11 (a 11))
def bcG (a b : Nat → Int64) : Nat → Int64 := (vp_updL (vp_updL (vp_updL (vp_updL (vp_updL b 2 (a 2)) 3 (a 3)) 4 (a 4)) 5 (a 5)) 6 (a 6))
def bcW (a b : Nat → Nat → Int32) (k : Nat) : Nat → Nat → Int32 := fun i => if i < k then cpI (a i) (b i) 6 else b i
def cfBecome (a b : CF) : CF := (bcI a.1 b.1, bcG a.2.1 b.2.1, cpL a.2.2.1 b.2.2.1 6, cpI a.2.2.2.1 b.2.2.2.1 5, bcW a.2.2.2.2.1 b.2.2.2.2.1 5, cpI a.2.2.2.2.2.1 b.2.2.2.2.2.1 5, cpL a.2.2.2.2.2.2 b.2.2.2.2.2.2 7)
/-- the third loop of become, inner -/
theorem s_bec_in {d : Nat} {h : sHp} {p q K : Nat} {Ip Iq : Nat → Int32} {Gp Gq : Nat → Int64} {fp fq : Nat → Option Nat} {wp wq : Nat → Int32} {Q : Option Value → sHp → Prop} (a0 : h[p]? = some (fO p Ip Gp)) (b0 : h[q]? = some (fO q Iq Gq)) (a3 : h[p + 3]? = some (.inl (5, 5, .inr (.inr (.inr (.inr fp)))))) (a4 : ∀ k, k < 5 → fp k = some (p + 4 + k)) (b3 : h[q + 3]? = some (.inl (5, 5, .inr (.inr (.inr (.inr fq)))))) (b4 : ∀ k, k < 5 → fq k = some (q + 4 + k)) (hd : q + 10 < p ∨ p + 10 < q) (hK : K < 5) (a5 : h[p + 4 + K]? = some (.inl (0, 6, .inl wp))) (b5 : h[q + 4 + K]? = some (.inl (0, 6, .inl wq))) (hQ : ∀ x : Int32, sGo none 18 d 209 [some (.ref p), some (.ref q), some (.int (Int32.ofNat K)), some (.int x)] [] (h.set (p + 4 + K) (.inl (0, 6, .inl (cpI wq wp 6)))) Q) : ∀ (N j : Nat), j ≤ 6 → 6 - j < N → sGo none 18 d 181 [some (.ref p), some (.ref q), some (.int (Int32.ofNat K)), some (.int (Int32.ofNat j))] [] (h.set (p + 4 + K) (.inl (0, 6, .inl (cpI wq wp j)))) Q := by
  have eK := ofN_toInt (n := K) (by omega)
  have e6 : (Int8.ofInt 6).toInt32.toInt = 6 := rfl
  have fP : va_rf (fp (Int32.ofNat K).toNatClampNeg) = .ref (p + 4 + K) := by rw [i_nat eK, a4 K hK]; rfl
  have fQ : va_rf (fq (Int32.ofNat K).toNatClampNeg) = .ref (q + 4 + K) := by rw [i_nat eK, b4 K hK]; rfl
  intro N
  induction N with
  | zero => intro j _ hl; omega
  | succ N ih =>
    intro j hj hl
    have ej := ofN_toInt (n := j) (by omega)
    have c0 : (h.set (p + 4 + K) (.inl (0, 6, .inl (cpI wq wp j))))[p]? = some (fO p Ip Gp) := by rw [s_set_ne (by omega)]; exact a0
    have d0 : (h.set (p + 4 + K) (.inl (0, 6, .inl (cpI wq wp j))))[q]? = some (fO q Iq Gq) := by rw [s_set_ne (by omega)]; exact b0
    have c3 : (h.set (p + 4 + K) (.inl (0, 6, .inl (cpI wq wp j))))[p + 3]? = some (.inl (5, 5, .inr (.inr (.inr (.inr fp))))) := by rw [s_set_ne (by omega)]; exact a3
    have d3 : (h.set (p + 4 + K) (.inl (0, 6, .inl (cpI wq wp j))))[q + 3]? = some (.inl (5, 5, .inr (.inr (.inr (.inr fq))))) := by rw [s_set_ne (by omega)]; exact b3
    refine g_iload_n (i := 3) rfl rfl ?_
    refine g_bipush (n := 6) rfl ?_
    refine g_icmp_ge 209 rfl rfl (fun hc => ?_) (fun hc => ?_)
    · skip
      rw [i_le, e6, ej] at hc
      have hj6 : j = 6 := by omega
      rw [hj6]
      exact hQ _
    · skip
      rw [i_le, e6, ej] at hc
      refine g_aload_n (i := 0) rfl rfl ?_
      refine g_getfield (v := .ref (p + 3)) rfl c0 (by decide) rfl ?_
      refine g_iload_n (i := 2) rfl rfl ?_
      refine g_aaload rfl c3 (by decide) (i_in (by omega) (by omega)) ?_
      rw [fP]
      refine g_iload_n (i := 3) rfl rfl ?_
      refine g_aload_n (i := 1) rfl rfl ?_
      refine g_getfield (v := .ref (q + 3)) rfl d0 (by decide) rfl ?_
      refine g_iload_n (i := 2) rfl rfl ?_
      refine g_aaload rfl d3 (by decide) (i_in (by omega) (by omega)) ?_
      rw [fQ]
      refine g_iload_n (i := 3) rfl rfl ?_
      refine g_iaload (n := 6) (f := wq) rfl (by rw [s_set_ne (by omega)]; exact b5) (i_in (by omega) (by omega)) ?_
      rw [i_nat ej]
      refine g_iastore (h1 := h.set (p + 4 + K) (.inl (0, 6, .inl (cpI wq wp (j + 1))))) rfl (s_set_eq a5) (i_in (by omega) (by omega)) (by rw [i_nat ej, List.set_set]; exact congrArg (fun e => h.set (p + 4 + K) (.inl (0, 6, .inl e))) (cpI_s wq wp j)) ?_
      refine g_iinc (i := 3) (L1 := [some (.ref p), some (.ref q), some (.int (Int32.ofNat K)), some (.int ((Int32.ofNat j) + Int32.ofInt 1))]) rfl rfl rfl ?_
      rw [ofN_add (by omega)]
      refine g_goto 181 rfl rfl ?_
      exact ih (j + 1) (by omega) (by omega)
theorem s_bec_3 {d : Nat} {h0 : sHp} {p q : Nat} {cq : CF} {Ip : Nat → Int32} {Gp so : Nat → Int64} {sh : Nat → Int32} {wo : Nat → Nat → Int32} {fo : Nat → Int32} {ow : Nat → Int64} (hd : q + 10 < p ∨ p + 10 < q) (fb : ∀ k, k < 5 → cq.2.2.2.2.2.1 k = 0 ∨ cq.2.2.2.2.2.1 k = 1) : ∀ (N k : Nat) (h : sHp) (o3 : Option Value), k ≤ 5 → 5 - k < N → FC h q cq → FC h p (Ip, Gp, so, cpI cq.2.2.2.1 sh k, bcW cq.2.2.2.2.1 wo k, cpI cq.2.2.2.2.2.1 fo k, ow) → fE p h0 h → sGo none 18 d 150 [some (.ref p), some (.ref q), some (.int (Int32.ofNat k)), o3] [] h (fun r h' => r = none ∧ FC h' p (Ip, Gp, so, cpI cq.2.2.2.1 sh 5, bcW cq.2.2.2.2.1 wo 5, cpI cq.2.2.2.2.2.1 fo 5, ow) ∧ fE p h0 h') := by
  have e5 : (Int32.ofInt 5).toInt = 5 := rfl
  intro N
  induction N with
  | zero => intro k h o3 _ hl; omega
  | succ N ih =>
    intro k h o3 hk hl Fq Fp E
    have ek := ofN_toInt (n := k) (by omega)
    refine g_iload_n (i := 2) rfl rfl ?_
    refine g_iconst (n := 5) rfl ?_
    refine g_icmp_ge 215 rfl rfl (fun hc => ?_) (fun hc => ?_)
    · skip
      rw [i_le, e5, ek] at hc
      have hk5 : k = 5 := by omega
      subst hk5
      refine g_return rfl rfl ?_
      exact ⟨rfl, Fp, E⟩
    · skip
      rw [i_le, e5, ek] at hc
      refine g_aload_n (i := 0) rfl rfl ?_
      refine g_getfield (v := .ref (p + 2)) rfl Fp.1 (by decide) rfl ?_
      refine g_iload_n (i := 2) rfl rfl ?_
      refine g_aload_n (i := 1) rfl rfl ?_
      refine g_getfield (v := .ref (q + 2)) rfl Fq.1 (by decide) rfl ?_
      refine g_iload_n (i := 2) rfl rfl ?_
      refine g_iaload (n := 5) (f := cq.2.2.2.1) rfl Fq.2.2.1 (i_in (by omega) (by omega)) ?_
      rw [i_nat ek]
      refine g_iastore (h1 := h.set (p + 2) (.inl (0, 5, .inl (cpI cq.2.2.2.1 sh (k + 1))))) rfl Fp.2.2.1 (i_in (by omega) (by omega)) (by rw [i_nat ek]; exact congrArg (fun e => h.set (p + 2) (.inl (0, 5, .inl e))) (cpI_s _ _ k)) ?_
      have F1 := FC_2 (sh := cpI cq.2.2.2.1 sh (k + 1)) Fp
      have E1 : fE p h0 (h.set (p + 2) (.inl (0, 5, .inl (cpI cq.2.2.2.1 sh (k + 1))))) := fE_set E (by omega) (by omega)
      have Q1 : FC (h.set (p + 2) (.inl (0, 5, .inl (cpI cq.2.2.2.1 sh (k + 1))))) q cq := FC_out Fq (by omega)
      generalize h.set (p + 2) (.inl (0, 5, .inl (cpI cq.2.2.2.1 sh (k + 1)))) = h1 at F1 E1 Q1
      refine g_aload_n (i := 0) rfl rfl ?_
      refine g_getfield (v := .ref (p + 9)) rfl F1.1 (by decide) rfl ?_
      refine g_iload_n (i := 2) rfl rfl ?_
      refine g_aload_n (i := 1) rfl rfl ?_
      refine g_getfield (v := .ref (q + 9)) rfl Q1.1 (by decide) rfl ?_
      refine g_iload_n (i := 2) rfl rfl ?_
      refine g_baload (n := 5) (f := cq.2.2.2.2.2.1) rfl Q1.2.2.2.2.2.1 (i_in (by omega) (by omega)) ?_
      rw [i_nat ek]
      refine g_bastore (h1 := h1.set (p + 9) (.inl (2, 5, .inl (cpI cq.2.2.2.2.2.1 fo (k + 1))))) rfl F1.2.2.2.2.2.1 (fb k (by omega)) (i_in (by omega) (by omega)) (by rw [i_nat ek]; exact congrArg (fun e => h1.set (p + 9) (.inl (2, 5, .inl e))) (cpI_s _ _ k)) ?_
      have F2 := FC_9 (fo := cpI cq.2.2.2.2.2.1 fo (k + 1)) F1
      have E2 : fE p h0 (h1.set (p + 9) (.inl (2, 5, .inl (cpI cq.2.2.2.2.2.1 fo (k + 1))))) := fE_set E1 (by omega) (by omega)
      have Q2 : FC (h1.set (p + 9) (.inl (2, 5, .inl (cpI cq.2.2.2.2.2.1 fo (k + 1))))) q cq := FC_out Q1 (by omega)
      generalize h1.set (p + 9) (.inl (2, 5, .inl (cpI cq.2.2.2.2.2.1 fo (k + 1)))) = h2 at F2 E2 Q2
      have F2c := F2
      have Q2c := Q2
      obtain ⟨a0, -, -, ⟨fp, a3, a4⟩, a5, -⟩ := F2c
      obtain ⟨b0, -, -, ⟨fq, b3, b4⟩, b5, -⟩ := Q2c
      have hbw : bcW cq.2.2.2.2.1 wo k k = wo k := if_neg (Nat.lt_irrefl k)
      have a5k : h2[p + 4 + k]? = some (.inl (0, 6, .inl (wo k))) := by rw [← hbw]; exact a5 k (by omega)
      refine g_iconst (n := 0) rfl ?_
      refine g_istore_n (i := 3) (L1 := [some (.ref p), some (.ref q), some (.int (Int32.ofNat k)), some (.int (Int32.ofInt 0))]) rfl (Nat.le_of_ble_eq_true rfl) rfl ?_
      have key := s_bec_in (d := d) a0 b0 a3 a4 b3 b4 hd (show k < 5 by omega) a5k (b5 k (by omega)) (Q := fun r h' => r = none ∧ FC h' p (Ip, Gp, so, cpI cq.2.2.2.1 sh 5, bcW cq.2.2.2.2.1 wo 5, cpI cq.2.2.2.2.2.1 fo 5, ow) ∧ fE p h0 h') (fun x => ?_) 7 0 (by decide) (by decide)
      · rw [cpI_0, s_set_self a5k] at key
        exact key
      · skip
        refine g_iinc (i := 2) (L1 := [some (.ref p), some (.ref q), some (.int ((Int32.ofNat k) + Int32.ofInt 1)), some (.int x)]) rfl rfl rfl ?_
        rw [ofN_add (by omega)]
        refine g_goto 150 rfl rfl ?_
        have F3 := FC_4 (w := cpI (cq.2.2.2.2.1 k) (wo k) 6) F2 (show k < 5 by omega)
        refine ih (k + 1) _ _ (by omega) (by omega) (FC_out Q2 (by omega)) ?_ (fE_set E2 (by omega) (by omega))
        have ew : (fun i => if i = k then cpI (cq.2.2.2.2.1 k) (wo k) 6 else bcW cq.2.2.2.2.1 wo k i) = bcW cq.2.2.2.2.1 wo (k + 1) := funext fun i => by
          unfold bcW
          by_cases e : i = k
          · rw [if_pos e, if_pos (show i < k + 1 by omega), e]
          · rw [if_neg e]
            by_cases e2 : i < k
            · rw [if_pos e2, if_pos (show i < k + 1 by omega)]
            · rw [if_neg e2, if_neg (show ¬ i < k + 1 by omega)]
        rw [← ew]
        exact F3
theorem s_bec_1 {d : Nat} {h0 : sHp} {p q : Nat} {cq : CF} {Ip : Nat → Int32} {Gp : Nat → Int64} {so : Nat → Int64} {sh : Nat → Int32} {wo : Nat → Nat → Int32} {fo : Nat → Int32} {ow : Nat → Int64} {o3 : Option Value} {Q : Option Value → sHp → Prop} (hd : q + 10 < p ∨ p + 10 < q) (hQ : ∀ (h : sHp) (x : Int32), FC h q cq → FC h p (Ip, Gp, cpL cq.2.2.1 so 6, sh, wo, fo, ow) → fE p h0 h → sGo none 18 d 122 [some (.ref p), some (.ref q), some (.int x), o3] [] h Q) : ∀ (N k : Nat) (h : sHp), k ≤ 6 → 6 - k < N → FC h q cq → FC h p (Ip, Gp, cpL cq.2.2.1 so k, sh, wo, fo, ow) → fE p h0 h → sGo none 18 d 98 [some (.ref p), some (.ref q), some (.int (Int32.ofNat k)), o3] [] h Q := by
  have ec : (Int8.ofInt 6).toInt32.toInt = 6 := rfl
  intro N
  induction N with
  | zero => intro k h _ hl; omega
  | succ N ih =>
    intro k h hk hl Fq Fp E
    have ek := ofN_toInt (n := k) (by omega)
    refine g_iload_n (i := 2) rfl rfl ?_
    refine g_bipush (n := 6) rfl ?_
    refine g_icmp_ge 122 rfl rfl (fun hc => ?_) (fun hc => ?_)
    · skip
      rw [i_le, ec, ek] at hc
      have hk5 : k = 6 := by omega
      subst hk5
      exact hQ h _ Fq Fp E
    · skip
      rw [i_le, ec, ek] at hc
      refine g_aload_n (i := 0) rfl rfl ?_
      refine g_getfield (v := .ref (p + 1)) rfl Fp.1 (by decide) rfl ?_
      refine g_iload_n (i := 2) rfl rfl ?_
      refine g_aload_n (i := 1) rfl rfl ?_
      refine g_getfield (v := .ref (q + 1)) rfl Fq.1 (by decide) rfl ?_
      refine g_iload_n (i := 2) rfl rfl ?_
      refine g_laload (n := 6) (f := cq.2.2.1) rfl Fq.2.1 (i_in (by omega) (by omega)) ?_
      rw [i_nat ek]
      refine g_lastore (h1 := h.set (p + 1) (.inl (1, 6, .inr (.inl (cpL cq.2.2.1 so (k + 1)))))) rfl Fp.2.1 (i_in (by omega) (by omega)) (by rw [i_nat ek]; exact congrArg (fun e => h.set (p + 1) (.inl (1, 6, .inr (.inl e)))) (cpL_s _ _ k)) ?_
      refine g_iinc (i := 2) (L1 := [some (.ref p), some (.ref q), some (.int ((Int32.ofNat k) + Int32.ofInt 1)), o3]) rfl rfl rfl ?_
      rw [ofN_add (by omega)]
      refine g_goto 98 rfl rfl ?_
      exact ih (k + 1) _ (by omega) (by omega) (FC_out Fq (by omega)) (FC_1 (so := cpL cq.2.2.1 so (k + 1)) Fp) (fE_set E (by omega) (by omega))
theorem s_bec_2 {d : Nat} {h0 : sHp} {p q : Nat} {cq : CF} {Ip : Nat → Int32} {Gp : Nat → Int64} {so : Nat → Int64} {sh : Nat → Int32} {wo : Nat → Nat → Int32} {fo : Nat → Int32} {ow : Nat → Int64} {o3 : Option Value} {Q : Option Value → sHp → Prop} (hd : q + 10 < p ∨ p + 10 < q) (hQ : ∀ (h : sHp) (x : Int32), FC h q cq → FC h p (Ip, Gp, so, sh, wo, fo, cpL cq.2.2.2.2.2.2 ow 7) → fE p h0 h → sGo none 18 d 148 [some (.ref p), some (.ref q), some (.int x), o3] [] h Q) : ∀ (N k : Nat) (h : sHp), k ≤ 7 → 7 - k < N → FC h q cq → FC h p (Ip, Gp, so, sh, wo, fo, cpL cq.2.2.2.2.2.2 ow k) → fE p h0 h → sGo none 18 d 124 [some (.ref p), some (.ref q), some (.int (Int32.ofNat k)), o3] [] h Q := by
  have ec : (Int8.ofInt 7).toInt32.toInt = 7 := rfl
  intro N
  induction N with
  | zero => intro k h _ hl; omega
  | succ N ih =>
    intro k h hk hl Fq Fp E
    have ek := ofN_toInt (n := k) (by omega)
    refine g_iload_n (i := 2) rfl rfl ?_
    refine g_bipush (n := 7) rfl ?_
    refine g_icmp_ge 148 rfl rfl (fun hc => ?_) (fun hc => ?_)
    · skip
      rw [i_le, ec, ek] at hc
      have hk5 : k = 7 := by omega
      subst hk5
      exact hQ h _ Fq Fp E
    · skip
      rw [i_le, ec, ek] at hc
      refine g_aload_n (i := 0) rfl rfl ?_
      refine g_getfield (v := .ref (p + 10)) rfl Fp.1 (by decide) rfl ?_
      refine g_iload_n (i := 2) rfl rfl ?_
      refine g_aload_n (i := 1) rfl rfl ?_
      refine g_getfield (v := .ref (q + 10)) rfl Fq.1 (by decide) rfl ?_
      refine g_iload_n (i := 2) rfl rfl ?_
      refine g_laload (n := 7) (f := cq.2.2.2.2.2.2) rfl Fq.2.2.2.2.2.2 (i_in (by omega) (by omega)) ?_
      rw [i_nat ek]
      refine g_lastore (h1 := h.set (p + 10) (.inl (1, 7, .inr (.inl (cpL cq.2.2.2.2.2.2 ow (k + 1)))))) rfl Fp.2.2.2.2.2.2 (i_in (by omega) (by omega)) (by rw [i_nat ek]; exact congrArg (fun e => h.set (p + 10) (.inl (1, 7, .inr (.inl e)))) (cpL_s _ _ k)) ?_
      refine g_iinc (i := 2) (L1 := [some (.ref p), some (.ref q), some (.int ((Int32.ofNat k) + Int32.ofInt 1)), o3]) rfl rfl rfl ?_
      rw [ofN_add (by omega)]
      refine g_goto 124 rfl rfl ?_
      exact ih (k + 1) _ (by omega) (by omega) (FC_out Fq (by omega)) (FC_10 (ow := cpL cq.2.2.2.2.2.2 ow (k + 1)) Fp) (fE_set E (by omega) (by omega))
theorem s_become {d : Nat} {h : sHp} {p q : Nat} {cp cq : CF} (Fp : FC h p cp) (Fq : FC h q cq) (hd : q + 10 < p ∨ p + 10 < q) (fb : ∀ k, k < 5 → cq.2.2.2.2.2.1 k = 0 ∨ cq.2.2.2.2.2.1 k = 1) : sDo (d + 1) 18 [.ref p, .ref q] h (fun r h' => r = none ∧ FC h' p (cfBecome cq cp) ∧ fE p h h') := by
  obtain ⟨Ip, Gp, so, sh, wo, fo, ow⟩ := cp
  obtain ⟨Iq, Gq, so2, sh2, wo2, fo2, ow2⟩ := cq
  have a0 : h[p]? = some (fO p Ip Gp) := Fp.1
  have b0 : h[q]? = some (fO q Iq Gq) := Fq.1
  have at_ : ∀ I G, (h.set p (fO p I G))[p]? = some (fO p I G) := fun _ _ => s_set_eq a0
  have bt_ : ∀ I G, (h.set p (fO p I G))[q]? = some (fO q Iq Gq) := fun _ _ => by rw [s_set_ne (by omega)]; exact b0
  refine sDo_of (d := d) (nL := 4) (L := [some (.ref p), some (.ref q), none, none]) rfl rfl ?_
  refine g_aload_n (i := 0) rfl rfl ?_
  refine g_aload_n (i := 1) rfl rfl ?_
  refine g_getfield (v := .int (Iq 0)) rfl b0 (by decide) rfl ?_
  refine g_putfield (h1 := h.set p (fO p (upd Ip 0 (Iq 0)) Gp)) rfl a0 (by decide) (Nat.le_of_ble_eq_true rfl) rfl rfl ?_
  refine g_aload_n (i := 0) rfl rfl ?_
  refine g_aload_n (i := 1) rfl rfl ?_
  refine g_getfield (v := .int (Iq 1)) rfl (bt_ _ _) (by decide) rfl ?_
  refine g_putfield (h1 := h.set p (fO p (upd (upd Ip 0 (Iq 0)) 1 (Iq 1)) Gp)) rfl (at_ _ _) (by decide) (Nat.le_of_ble_eq_true rfl) rfl (List.set_set ..) ?_
  refine g_aload_n (i := 0) rfl rfl ?_
  refine g_aload_n (i := 1) rfl rfl ?_
  refine g_getfield (v := .long (Gq 2)) rfl (bt_ _ _) (by decide) rfl ?_
  refine g_putfield (h1 := h.set p (fO p (upd (upd Ip 0 (Iq 0)) 1 (Iq 1)) (vp_updL Gp 2 (Gq 2)))) rfl (at_ _ _) (by decide) (Nat.le_of_ble_eq_true rfl) rfl (List.set_set ..) ?_
  refine g_aload_n (i := 0) rfl rfl ?_
  refine g_aload_n (i := 1) rfl rfl ?_
  refine g_getfield (v := .long (Gq 3)) rfl (bt_ _ _) (by decide) rfl ?_
  refine g_putfield (h1 := h.set p (fO p (upd (upd Ip 0 (Iq 0)) 1 (Iq 1)) (vp_updL (vp_updL Gp 2 (Gq 2)) 3 (Gq 3)))) rfl (at_ _ _) (by decide) (Nat.le_of_ble_eq_true rfl) rfl (List.set_set ..) ?_
  refine g_aload_n (i := 0) rfl rfl ?_
  refine g_aload_n (i := 1) rfl rfl ?_
  refine g_getfield (v := .long (Gq 4)) rfl (bt_ _ _) (by decide) rfl ?_
  refine g_putfield (h1 := h.set p (fO p (upd (upd Ip 0 (Iq 0)) 1 (Iq 1)) (vp_updL (vp_updL (vp_updL Gp 2 (Gq 2)) 3 (Gq 3)) 4 (Gq 4)))) rfl (at_ _ _) (by decide) (Nat.le_of_ble_eq_true rfl) rfl (List.set_set ..) ?_
  refine g_aload_n (i := 0) rfl rfl ?_
  refine g_aload_n (i := 1) rfl rfl ?_
  refine g_getfield (v := .long (Gq 5)) rfl (bt_ _ _) (by decide) rfl ?_
  refine g_putfield (h1 := h.set p (fO p (upd (upd Ip 0 (Iq 0)) 1 (Iq 1)) (vp_updL (vp_updL (vp_updL (vp_updL Gp 2 (Gq 2)) 3 (Gq 3)) 4 (Gq 4)) 5 (Gq 5)))) rfl (at_ _ _) (by decide) (Nat.le_of_ble_eq_true rfl) rfl (List.set_set ..) ?_
  refine g_aload_n (i := 0) rfl rfl ?_
  refine g_aload_n (i := 1) rfl rfl ?_
  refine g_getfield (v := .long (Gq 6)) rfl (bt_ _ _) (by decide) rfl ?_
  refine g_putfield (h1 := h.set p (fO p (upd (upd Ip 0 (Iq 0)) 1 (Iq 1)) (vp_updL (vp_updL (vp_updL (vp_updL (vp_updL Gp 2 (Gq 2)) 3 (Gq 3)) 4 (Gq 4)) 5 (Gq 5)) 6 (Gq 6)))) rfl (at_ _ _) (by decide) (Nat.le_of_ble_eq_true rfl) rfl (List.set_set ..) ?_
  refine g_aload_n (i := 0) rfl rfl ?_
  refine g_aload_n (i := 1) rfl rfl ?_
  refine g_getfield (v := .int (Iq 7)) rfl (bt_ _ _) (by decide) rfl ?_
  refine g_putfield (h1 := h.set p (fO p (upd (upd (upd Ip 0 (Iq 0)) 1 (Iq 1)) 7 (Iq 7)) (vp_updL (vp_updL (vp_updL (vp_updL (vp_updL Gp 2 (Gq 2)) 3 (Gq 3)) 4 (Gq 4)) 5 (Gq 5)) 6 (Gq 6)))) rfl (at_ _ _) (by decide) (Nat.le_of_ble_eq_true rfl) rfl (List.set_set ..) ?_
  refine g_aload_n (i := 0) rfl rfl ?_
  refine g_aload_n (i := 1) rfl rfl ?_
  refine g_getfield (v := .int (Iq 8)) rfl (bt_ _ _) (by decide) rfl ?_
  refine g_putfield (h1 := h.set p (fO p (upd (upd (upd (upd Ip 0 (Iq 0)) 1 (Iq 1)) 7 (Iq 7)) 8 (Iq 8)) (vp_updL (vp_updL (vp_updL (vp_updL (vp_updL Gp 2 (Gq 2)) 3 (Gq 3)) 4 (Gq 4)) 5 (Gq 5)) 6 (Gq 6)))) rfl (at_ _ _) (by decide) (Nat.le_of_ble_eq_true rfl) rfl (List.set_set ..) ?_
  refine g_aload_n (i := 0) rfl rfl ?_
  refine g_aload_n (i := 1) rfl rfl ?_
  refine g_getfield (v := .int (Iq 9)) rfl (bt_ _ _) (by decide) rfl ?_
  refine g_putfield (h1 := h.set p (fO p (upd (upd (upd (upd (upd Ip 0 (Iq 0)) 1 (Iq 1)) 7 (Iq 7)) 8 (Iq 8)) 9 (Iq 9)) (vp_updL (vp_updL (vp_updL (vp_updL (vp_updL Gp 2 (Gq 2)) 3 (Gq 3)) 4 (Gq 4)) 5 (Gq 5)) 6 (Gq 6)))) rfl (at_ _ _) (by decide) (Nat.le_of_ble_eq_true rfl) rfl (List.set_set ..) ?_
  refine g_aload_n (i := 0) rfl rfl ?_
  refine g_aload_n (i := 1) rfl rfl ?_
  refine g_getfield (v := .int (Iq 10)) rfl (bt_ _ _) (by decide) rfl ?_
  refine g_putfield (h1 := h.set p (fO p (upd (upd (upd (upd (upd (upd Ip 0 (Iq 0)) 1 (Iq 1)) 7 (Iq 7)) 8 (Iq 8)) 9 (Iq 9)) 10 (Iq 10)) (vp_updL (vp_updL (vp_updL (vp_updL (vp_updL Gp 2 (Gq 2)) 3 (Gq 3)) 4 (Gq 4)) 5 (Gq 5)) 6 (Gq 6)))) rfl (at_ _ _) (by decide) (Nat.le_of_ble_eq_true rfl) rfl (List.set_set ..) ?_
  refine g_aload_n (i := 0) rfl rfl ?_
  refine g_aload_n (i := 1) rfl rfl ?_
  refine g_getfield (v := .int (Iq 11)) rfl (bt_ _ _) (by decide) rfl ?_
  refine g_putfield (h1 := h.set p (fO p (upd (upd (upd (upd (upd (upd (upd Ip 0 (Iq 0)) 1 (Iq 1)) 7 (Iq 7)) 8 (Iq 8)) 9 (Iq 9)) 10 (Iq 10)) 11 (Iq 11)) (vp_updL (vp_updL (vp_updL (vp_updL (vp_updL Gp 2 (Gq 2)) 3 (Gq 3)) 4 (Gq 4)) 5 (Gq 5)) 6 (Gq 6)))) rfl (at_ _ _) (by decide) (Nat.le_of_ble_eq_true rfl) rfl (List.set_set ..) ?_
  have F1 : FC (h.set p (fO p (upd (upd (upd (upd (upd (upd (upd Ip 0 (Iq 0)) 1 (Iq 1)) 7 (Iq 7)) 8 (Iq 8)) 9 (Iq 9)) 10 (Iq 10)) 11 (Iq 11)) (vp_updL (vp_updL (vp_updL (vp_updL (vp_updL Gp 2 (Gq 2)) 3 (Gq 3)) 4 (Gq 4)) 5 (Gq 5)) 6 (Gq 6)))) p (bcI Iq Ip, bcG Gq Gp, so, sh, wo, fo, ow) := FC_0 Fp
  have E1 : fE p h (h.set p (fO p (upd (upd (upd (upd (upd (upd (upd Ip 0 (Iq 0)) 1 (Iq 1)) 7 (Iq 7)) 8 (Iq 8)) 9 (Iq 9)) 10 (Iq 10)) 11 (Iq 11)) (vp_updL (vp_updL (vp_updL (vp_updL (vp_updL Gp 2 (Gq 2)) 3 (Gq 3)) 4 (Gq 4)) 5 (Gq 5)) 6 (Gq 6)))) := fE_set fE_rfl (by omega) (by omega)
  have Q1 := FC_out (x := fO p (upd (upd (upd (upd (upd (upd (upd Ip 0 (Iq 0)) 1 (Iq 1)) 7 (Iq 7)) 8 (Iq 8)) 9 (Iq 9)) 10 (Iq 10)) 11 (Iq 11)) (vp_updL (vp_updL (vp_updL (vp_updL (vp_updL Gp 2 (Gq 2)) 3 (Gq 3)) 4 (Gq 4)) 5 (Gq 5)) 6 (Gq 6))) Fq (show p < q ∨ q + 10 < p by omega)
  generalize h.set p (fO p (upd (upd (upd (upd (upd (upd (upd Ip 0 (Iq 0)) 1 (Iq 1)) 7 (Iq 7)) 8 (Iq 8)) 9 (Iq 9)) 10 (Iq 10)) 11 (Iq 11)) (vp_updL (vp_updL (vp_updL (vp_updL (vp_updL Gp 2 (Gq 2)) 3 (Gq 3)) 4 (Gq 4)) 5 (Gq 5)) 6 (Gq 6))) = h1 at F1 E1 Q1
  refine g_iconst (n := 0) rfl ?_
  refine g_istore_n (i := 2) (L1 := [some (.ref p), some (.ref q), some (.int (Int32.ofInt 0)), none]) rfl (Nat.le_of_ble_eq_true rfl) rfl ?_
  refine s_bec_1 hd (fun h2 x Q2 F2 E2 => ?_) 7 0 h1 (by decide) (by decide) Q1 (by rw [cpL_0]; exact F1) E1
  refine g_iconst (n := 0) rfl ?_
  refine g_istore_n (i := 2) (L1 := [some (.ref p), some (.ref q), some (.int (Int32.ofInt 0)), none]) rfl (Nat.le_of_ble_eq_true rfl) rfl ?_
  refine s_bec_2 hd (fun h3 x3 Q3 F3 E3 => ?_) 8 0 h2 (by decide) (by decide) Q2 (by rw [cpL_0]; exact F2) E2
  refine g_iconst (n := 0) rfl ?_
  refine g_istore_n (i := 2) (L1 := [some (.ref p), some (.ref q), some (.int (Int32.ofInt 0)), none]) rfl (Nat.le_of_ble_eq_true rfl) rfl ?_
  have w0 : bcW wo2 wo 0 = wo := funext fun i => if_neg (Nat.not_lt_zero i)
  exact s_bec_3 hd fb 6 0 h3 _ (by decide) (by decide) Q3 (by rw [cpI_0, cpI_0, w0]; exact F3) E3
end
