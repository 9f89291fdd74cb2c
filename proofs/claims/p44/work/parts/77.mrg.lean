section
/-! ===== the trace: acts ===== -/
def pL (k : Nat) : List Int32 := match k with
  | 1 => [(Int8.ofInt 20).toInt32, (Int8.ofInt 10).toInt32]
  | 4 => [(Int8.ofInt 51).toInt32, (Int8.ofInt 20).toInt32, (Int8.ofInt 10).toInt32]
  | 5 => [(Int8.ofInt 20).toInt32, (Int8.ofInt 10).toInt32]
  | 6 => [(Int8.ofInt 70).toInt32, (Int8.ofInt 10).toInt32]
  | _ => [(Int8.ofInt 10).toInt32]
def wL (k : Nat) : List Int32 := match k with
  | 2 => (Int8.ofInt 30).toInt32 :: (Int8.ofInt 11).toInt32 :: pL 2
  | 4 => (Int8.ofInt 50).toInt32 :: (Int8.ofInt 11).toInt32 :: pL 4
  | 6 => (Int8.ofInt 71).toInt32 :: (Int8.ofInt 30).toInt32 :: (Int8.ofInt 11).toInt32 :: pL 6
  | k => (Int8.ofInt 11).toInt32 :: pL k
def hL (k : Nat) : List Int32 := match k with
  | 3 => (Int8.ofInt 40).toInt32 :: (Int8.ofInt 12).toInt32 :: (wL 3 ++ pL 3)
  | 5 => (Int8.ofInt 60).toInt32 :: (Int8.ofInt 12).toInt32 :: (wL 5 ++ pL 5)
  | k => (Int8.ofInt 12).toInt32 :: (wL k ++ pL k)
def pv (k : Nat) (s a x : Int32) : Int32 := match k with
  | 1 => x + s + a
  | 4 => -(x + s + a)
  | 5 => x + s + a
  | 6 => (x + s) * Int32.ofInt 2
  | _ => x + s
def wv (k : Nat) (s a x : Int32) : Int32 := match k with
  | 4 => pv 4 s a (x + Int32.ofInt 1) * Int32.ofInt 2
  | 6 => pv 6 s a (x - a) * Int32.ofInt 2 * Int32.ofInt 3
  | 2 => pv 2 s a x * Int32.ofInt 2 * Int32.ofInt 3
  | k => pv k s a x * Int32.ofInt 2
def hv (k : Nat) (s a x : Int32) : Int32 := match k with
  | 3 => (wv 3 s a x ^^^ pv 3 s a (x - a)) - s
  | 5 => (wv 5 s a x ^^^ pv 5 s a (x - a)) ^^^ Int32.ofInt 5
  | k => wv k s a x ^^^ pv k s a (x - a)
theorem ofN_toInt {n : Nat} (h : n < 1000) : (Int32.ofNat n).toInt = n := Int32.toInt_ofNat_of_lt (by omega)
theorem ofN_add {n : Nat} (h : n < 999) : Int32.ofNat n + Int32.ofInt 1 = Int32.ofNat (n + 1) := by
  have e1 : (Int32.ofInt 1).toInt = 1 := rfl
  apply Int32.toInt_inj.mp
  rw [i_add (by rw [ofN_toInt (by omega), e1]; omega) (by rw [ofN_toInt (by omega), e1]; omega), ofN_toInt (by omega), ofN_toInt (by omega), e1]
  omega
theorem app1_at {α : Type} {l : List α} {v : α} {i : Nat} {w : α} (h : (l ++ [v])[i]? = some w) : (i < l.length ∧ l[i]? = some w) ∨ (i = l.length ∧ w = v) := by
  by_cases c : i < l.length
  · rw [List.getElem?_append_left c] at h
    exact Or.inl ⟨c, h⟩
  · rw [List.getElem?_append_right (by omega)] at h
    by_cases c2 : i = l.length
    · rw [c2, Nat.sub_self] at h
      cases h
      exact Or.inr ⟨c2, rfl⟩
    · rw [List.getElem?_eq_none_iff.mpr (by show 1 ≤ i - l.length; omega)] at h
      cases h
def tC (h : sHp) (l : List Int32) : Prop := ∃ (so : Int32) (el : Nat → Int64), h[3]? = some (.inr (7, [.int so, .int (Int32.ofNat l.length), .ref 4])) ∧ h[4]? = some (.inl (1, 100, .inr (.inl el))) ∧ ∀ i v, l[i]? = some v → el i = v.toInt64
def tE (h h' : sHp) : Prop := ∃ c3 c4, h' = (h.set 4 c4).set 3 c3
theorem tE_tr {h h1 h2 : sHp} (a : tE h h1) (b : tE h1 h2) : tE h h2 := by
  obtain ⟨c3, c4, rfl⟩ := a
  obtain ⟨d3, d4, rfl⟩ := b
  refine ⟨d3, d4, ?_⟩
  rw [List.set_comm (i := 3) (j := 4) _ _ (by decide), List.set_set, List.set_set]
theorem tE_at {h h' : sHp} (a : tE h h') {p : Nat} (h3 : p ≠ 3) (h4 : p ≠ 4) : h'[p]? = h[p]? := by
  obtain ⟨c3, c4, rfl⟩ := a
  rw [s_set_ne (by omega), s_set_ne (by omega)]
theorem tE_len {h h' : sHp} (a : tE h h') : h'.length = h.length := by
  obtain ⟨c3, c4, rfl⟩ := a
  rw [List.length_set, List.length_set]
theorem s_append {d : Nat} {h : sHp} {l : List Int32} {v : Int32} (t : tC h l) (hl : l.length < 99) : sDo (d + 1) 87 [.ref 3, .int v] h (fun r h' => r = none ∧ tE h h' ∧ tC h' (l ++ [v])) := by
  obtain ⟨so, el, h3, h4, ht⟩ := t
  have en := ofN_toInt (n := l.length) (by omega)
  have e100 : (Int8.ofInt 100).toInt32.toInt = 100 := rfl
  refine sDo_of (d := d) (nL := 2) (L := [some (.ref 3), some (.int v)]) rfl rfl ?_
  refine g_aload_n (i := 0) rfl rfl ?_
  refine g_getfield (v := .int (Int32.ofNat l.length)) rfl h3 (by decide) rfl ?_
  refine g_bipush (n := 100) rfl ?_
  refine g_icmp_ge 30 rfl rfl (fun hc => absurd hc (by rw [i_le, e100, en]; omega)) (fun _ => ?_)
  refine g_aload_n (i := 0) rfl rfl ?_
  refine g_getfield (v := .ref 4) rfl h3 (by decide) rfl ?_
  refine g_aload_n (i := 0) rfl rfl ?_
  refine g_getfield (v := .int (Int32.ofNat l.length)) rfl h3 (by decide) rfl ?_
  refine g_iload_n (i := 1) rfl rfl ?_
  refine g_i2l rfl ?_
  refine g_lastore (h1 := h.set 4 (.inl (1, 100, .inr (.inl (vp_updL el l.length v.toInt64))))) rfl h4 (i_in (by omega) (by omega)) (by rw [i_nat en]) ?_
  have h3b : (h.set 4 (.inl (1, 100, .inr (.inl (vp_updL el l.length v.toInt64)))))[3]? = some (.inr (7, [.int so, .int (Int32.ofNat l.length), .ref 4])) := by rw [s_set_ne (by decide)]; exact h3
  refine g_aload_n (i := 0) rfl rfl ?_
  refine g_dup rfl rfl ?_
  refine g_getfield (v := .int (Int32.ofNat l.length)) rfl h3b (by decide) rfl ?_
  refine g_iconst (n := 1) rfl ?_
  refine g_iadd rfl ?_
  rw [ofN_add (by omega)]
  refine g_putfield (h1 := (h.set 4 (.inl (1, 100, .inr (.inl (vp_updL el l.length v.toInt64))))).set 3 (.inr (7, [.int so, .int (Int32.ofNat (l.length + 1)), .ref 4]))) rfl h3b (by decide) (Nat.le_of_ble_eq_true rfl) rfl rfl ?_
  refine g_return rfl rfl ?_
  refine ⟨rfl, ⟨_, _, rfl⟩, so, vp_updL el l.length v.toInt64, by rw [List.length_append]; exact s_set_eq h3b, by rw [s_set_ne (by decide)]; exact s_set_eq h4, fun i w hw => ?_⟩
  unfold vp_updL
  rcases app1_at hw with ⟨k1, k2⟩ | ⟨k1, k2⟩
  · rw [if_neg (by omega)]
    exact ht i w k2
  · rw [if_pos k1, k2]
/-- a body of the class: value and trace -/
def bB (d k p ci : Nat) (s c : Int32) (val : Int32 → Int32) (L : List Int32) : Prop := ∀ (h : sHp) (l : List Int32) (x : Int32), h[p]? = some (.inr (ci, cutFs s c)) → tC h l → l.length + L.length ≤ 60 → sDo d k [.ref p, .int x] h (fun r h' => r = some (.int (val x)) ∧ tE h h' ∧ tC h' (l ++ L))
theorem ap_as {l L : List Int32} {v : Int32} {h : sHp} (t : tC h (l ++ [v] ++ L)) : tC h (l ++ (v :: L)) := by
  rw [List.append_assoc] at t
  exact t
theorem m13 {d p ci : Nat} {s c : Int32} (hc : ci ∈ bCutL) (hp3 : 79 ≤ p) : bB (d + 2) 13 p ci s c (fun x => x + s) [(Int8.ofInt 10).toInt32] := by
  obtain ⟨hg, h11, -⟩ := cut_ty hc
  intro h l x hp t hl
  obtain ⟨so0, el0, h3, -⟩ := id t
  refine sDo_of (d := d + 1) (nL := 2) (L := [some (.ref p), some (.int x)]) rfl rfl ?_
  refine g_aload_n (i := 0) rfl rfl ?_
  refine g_getfield (v := .ref 3) rfl hp hg rfl ?_
  refine g_bipush (n := 10) rfl ?_
  refine g_virt1 rfl (by decide) rfl h3 rfl (Nat.le_of_ble_eq_true rfl) (sDo_up (d := 1) (by omega) (s_append (d := 0) t (by rw [List.length_cons] at hl; omega))) (fun r h1 hq => ?_)
  obtain ⟨rfl, e1, t1⟩ := hq
  have hp1 := (tE_at e1 (by omega) (by omega)).trans hp
  refine g_iload_n (i := 1) rfl rfl ?_
  refine g_aload_n (i := 0) rfl rfl ?_
  refine g_getfield (v := .int s) rfl hp1 hg rfl ?_
  refine g_iadd rfl ?_
  refine g_ireturn (ty := .int) rfl rfl rfl ?_
  exact ⟨rfl, e1, t1⟩
theorem m107 {d p ci : Nat} {s c : Int32} (hc : ci ∈ bCutL) (hp3 : 79 ≤ p) : bB (d + 3) 107 p ci s c (fun x => x + s + (cD c (Int8.ofInt 100).toInt32)) [(Int8.ofInt 20).toInt32, (Int8.ofInt 10).toInt32] := by
  obtain ⟨hg, h11, -⟩ := cut_ty hc
  intro h l x hp t hl
  obtain ⟨so0, el0, h3, -⟩ := id t
  refine sDo_of (d := d + 2) (nL := 2) (L := [some (.ref p), some (.int x)]) rfl rfl ?_
  refine g_aload_n (i := 0) rfl rfl ?_
  refine g_getfield (v := .ref 3) rfl hp hg rfl ?_
  refine g_bipush (n := 20) rfl ?_
  refine g_virt1 rfl (by decide) rfl h3 rfl (Nat.le_of_ble_eq_true rfl) (sDo_up (d := 1) (by omega) (s_append (d := 0) t (by rw [List.length_cons] at hl; omega))) (fun r h1 hq => ?_)
  obtain ⟨rfl, e1, t1⟩ := hq
  have hp1 := (tE_at e1 (by omega) (by omega)).trans hp
  refine g_aload_n (i := 0) rfl rfl ?_
  refine g_iload_n (i := 1) rfl rfl ?_
  refine g_init1 rfl (by decide) rfl hp1 (Nat.le_of_ble_eq_true rfl) (sDo_up (d := 2) (by omega) (m13 (d := 0) hc hp3 _ _ _ hp1 t1 (by simp only [List.length_append, List.length_cons, List.length_nil] at hl ⊢; omega))) (fun r h2 hq => ?_)
  obtain ⟨rfl, e2, t2⟩ := hq
  have hp2 := (tE_at e2 (by omega) (by omega)).trans hp1
  refine g_aload_n (i := 0) rfl rfl ?_
  refine g_getfield (v := .int (cD c (Int8.ofInt 100).toInt32)) rfl hp2 hg rfl ?_
  refine g_iadd rfl ?_
  refine g_ireturn (ty := .int) rfl rfl rfl ?_
  exact ⟨rfl, tE_tr e1 (e2), ap_as t2⟩
theorem m4 {d p ci : Nat} {s c : Int32} (hc : ci ∈ bCutL) (hp3 : 79 ≤ p) : bB (d + 4) 4 p ci s c (fun x => -(x + s + (cD c (Int8.ofInt 100).toInt32))) [(Int8.ofInt 51).toInt32, (Int8.ofInt 20).toInt32, (Int8.ofInt 10).toInt32] := by
  obtain ⟨hg, h11, -⟩ := cut_ty hc
  intro h l x hp t hl
  obtain ⟨so0, el0, h3, -⟩ := id t
  refine sDo_of (d := d + 3) (nL := 2) (L := [some (.ref p), some (.int x)]) rfl rfl ?_
  refine g_aload_n (i := 0) rfl rfl ?_
  refine g_getfield (v := .ref 3) rfl hp hg rfl ?_
  refine g_bipush (n := 51) rfl ?_
  refine g_virt1 rfl (by decide) rfl h3 rfl (Nat.le_of_ble_eq_true rfl) (sDo_up (d := 1) (by omega) (s_append (d := 0) t (by rw [List.length_cons] at hl; omega))) (fun r h1 hq => ?_)
  obtain ⟨rfl, e1, t1⟩ := hq
  have hp1 := (tE_at e1 (by omega) (by omega)).trans hp
  refine g_aload_n (i := 0) rfl rfl ?_
  refine g_iload_n (i := 1) rfl rfl ?_
  refine g_init1 rfl (by decide) rfl hp1 (Nat.le_of_ble_eq_true rfl) (sDo_up (d := 3) (by omega) (m107 (d := 0) hc hp3 _ _ _ hp1 t1 (by simp only [List.length_append, List.length_cons, List.length_nil] at hl ⊢; omega))) (fun r h2 hq => ?_)
  obtain ⟨rfl, e2, t2⟩ := hq
  have hp2 := (tE_at e2 (by omega) (by omega)).trans hp1
  refine g_ineg rfl ?_
  refine g_ireturn (ty := .int) rfl rfl rfl ?_
  exact ⟨rfl, tE_tr e1 (e2), ap_as t2⟩
theorem m111 {d p ci : Nat} {s c : Int32} (hc : ci ∈ bCutL) (hp3 : 79 ≤ p) : bB (d + 3) 111 p ci s c (fun x => (x + s) * Int32.ofInt 2) [(Int8.ofInt 70).toInt32, (Int8.ofInt 10).toInt32] := by
  obtain ⟨hg, h11, -⟩ := cut_ty hc
  intro h l x hp t hl
  obtain ⟨so0, el0, h3, -⟩ := id t
  refine sDo_of (d := d + 2) (nL := 2) (L := [some (.ref p), some (.int x)]) rfl rfl ?_
  refine g_aload_n (i := 0) rfl rfl ?_
  refine g_getfield (v := .ref 3) rfl hp hg rfl ?_
  refine g_bipush (n := 70) rfl ?_
  refine g_virt1 rfl (by decide) rfl h3 rfl (Nat.le_of_ble_eq_true rfl) (sDo_up (d := 1) (by omega) (s_append (d := 0) t (by rw [List.length_cons] at hl; omega))) (fun r h1 hq => ?_)
  obtain ⟨rfl, e1, t1⟩ := hq
  have hp1 := (tE_at e1 (by omega) (by omega)).trans hp
  refine g_aload_n (i := 0) rfl rfl ?_
  refine g_iload_n (i := 1) rfl rfl ?_
  refine g_init1 rfl (by decide) rfl hp1 (Nat.le_of_ble_eq_true rfl) (sDo_up (d := 2) (by omega) (m13 (d := 0) hc hp3 _ _ _ hp1 t1 (by simp only [List.length_append, List.length_cons, List.length_nil] at hl ⊢; omega))) (fun r h2 hq => ?_)
  obtain ⟨rfl, e2, t2⟩ := hq
  have hp2 := (tE_at e2 (by omega) (by omega)).trans hp1
  refine g_iconst (n := 2) rfl ?_
  refine g_imul rfl ?_
  refine g_ireturn (ty := .int) rfl rfl rfl ?_
  exact ⟨rfl, tE_tr e1 (e2), ap_as t2⟩
theorem m14 {d p ci : Nat} {s c : Int32} {P : Int32 → Int32} {Lp : List Int32} (hc : ci ∈ bCutL) (hp3 : 79 ≤ p) (hP : bB 4 (sVt 1003 ci) p ci s c P Lp) : bB (d + 5) 14 p ci s c (fun x => P x * Int32.ofInt 2) ((Int8.ofInt 11).toInt32 :: Lp) := by
  obtain ⟨hg, h11, -⟩ := cut_ty hc
  intro h l x hp t hl
  obtain ⟨so0, el0, h3, -⟩ := id t
  refine sDo_of (d := d + 4) (nL := 2) (L := [some (.ref p), some (.int x)]) rfl rfl ?_
  refine g_aload_n (i := 0) rfl rfl ?_
  refine g_getfield (v := .ref 3) rfl hp hg rfl ?_
  refine g_bipush (n := 11) rfl ?_
  refine g_virt1 rfl (by decide) rfl h3 rfl (Nat.le_of_ble_eq_true rfl) (sDo_up (d := 1) (by omega) (s_append (d := 0) t (by rw [List.length_cons] at hl; omega))) (fun r h1 hq => ?_)
  obtain ⟨rfl, e1, t1⟩ := hq
  have hp1 := (tE_at e1 (by omega) (by omega)).trans hp
  refine g_aload_n (i := 0) rfl rfl ?_
  refine g_iload_n (i := 1) rfl rfl ?_
  refine g_fam rfl (by decide) hp1 ⟨hg, h11⟩ (Nat.le_of_ble_eq_true rfl) (sDo_up (d := 4) (by omega) (hP _ _ _ hp1 t1 (by simp only [List.length_append, List.length_cons, List.length_nil] at hl ⊢; omega))) (fun r h2 hq => ?_)
  obtain ⟨rfl, e2, t2⟩ := hq
  have hp2 := (tE_at e2 (by omega) (by omega)).trans hp1
  refine g_iconst (n := 2) rfl ?_
  refine g_imul rfl ?_
  refine g_ireturn (ty := .int) rfl rfl rfl ?_
  exact ⟨rfl, tE_tr e1 (e2), ap_as t2⟩
theorem m8 {d p ci : Nat} {s c : Int32} {P : Int32 → Int32} {Lp : List Int32} (hc : ci ∈ bCutL) (hp3 : 79 ≤ p) (hP : bB 4 (sVt 1003 ci) p ci s c P Lp) : bB (d + 6) 8 p ci s c (fun x => P x * Int32.ofInt 2 * Int32.ofInt 3) ((Int8.ofInt 30).toInt32 :: (Int8.ofInt 11).toInt32 :: Lp) := by
  obtain ⟨hg, h11, -⟩ := cut_ty hc
  intro h l x hp t hl
  obtain ⟨so0, el0, h3, -⟩ := id t
  refine sDo_of (d := d + 5) (nL := 2) (L := [some (.ref p), some (.int x)]) rfl rfl ?_
  refine g_aload_n (i := 0) rfl rfl ?_
  refine g_getfield (v := .ref 3) rfl hp hg rfl ?_
  refine g_bipush (n := 30) rfl ?_
  refine g_virt1 rfl (by decide) rfl h3 rfl (Nat.le_of_ble_eq_true rfl) (sDo_up (d := 1) (by omega) (s_append (d := 0) t (by rw [List.length_cons] at hl; omega))) (fun r h1 hq => ?_)
  obtain ⟨rfl, e1, t1⟩ := hq
  have hp1 := (tE_at e1 (by omega) (by omega)).trans hp
  refine g_aload_n (i := 0) rfl rfl ?_
  refine g_iload_n (i := 1) rfl rfl ?_
  refine g_init1 rfl (by decide) rfl hp1 (Nat.le_of_ble_eq_true rfl) (sDo_up (d := 5) (by omega) (m14 (d := 0) hc hp3 hP _ _ _ hp1 t1 (by simp only [List.length_append, List.length_cons, List.length_nil] at hl ⊢; omega))) (fun r h2 hq => ?_)
  obtain ⟨rfl, e2, t2⟩ := hq
  have hp2 := (tE_at e2 (by omega) (by omega)).trans hp1
  refine g_iconst (n := 3) rfl ?_
  refine g_imul rfl ?_
  refine g_ireturn (ty := .int) rfl rfl rfl ?_
  exact ⟨rfl, tE_tr e1 (e2), ap_as t2⟩
theorem m3 {d p ci : Nat} {s c : Int32} {P : Int32 → Int32} {Lp : List Int32} (hc : ci ∈ bCutL) (hp3 : 79 ≤ p) (hP : bB 4 (sVt 1003 ci) p ci s c P Lp) : bB (d + 6) 3 p ci s c (fun x => P (x + Int32.ofInt 1) * Int32.ofInt 2) ((Int8.ofInt 50).toInt32 :: (Int8.ofInt 11).toInt32 :: Lp) := by
  obtain ⟨hg, h11, -⟩ := cut_ty hc
  intro h l x hp t hl
  obtain ⟨so0, el0, h3, -⟩ := id t
  refine sDo_of (d := d + 5) (nL := 2) (L := [some (.ref p), some (.int x)]) rfl rfl ?_
  refine g_aload_n (i := 0) rfl rfl ?_
  refine g_getfield (v := .ref 3) rfl hp hg rfl ?_
  refine g_bipush (n := 50) rfl ?_
  refine g_virt1 rfl (by decide) rfl h3 rfl (Nat.le_of_ble_eq_true rfl) (sDo_up (d := 1) (by omega) (s_append (d := 0) t (by rw [List.length_cons] at hl; omega))) (fun r h1 hq => ?_)
  obtain ⟨rfl, e1, t1⟩ := hq
  have hp1 := (tE_at e1 (by omega) (by omega)).trans hp
  refine g_aload_n (i := 0) rfl rfl ?_
  refine g_iload_n (i := 1) rfl rfl ?_
  refine g_iconst (n := 1) rfl ?_
  refine g_iadd rfl ?_
  refine g_init1 rfl (by decide) rfl hp1 (Nat.le_of_ble_eq_true rfl) (sDo_up (d := 5) (by omega) (m14 (d := 0) hc hp3 hP _ _ _ hp1 t1 (by simp only [List.length_append, List.length_cons, List.length_nil] at hl ⊢; omega))) (fun r h2 hq => ?_)
  obtain ⟨rfl, e2, t2⟩ := hq
  have hp2 := (tE_at e2 (by omega) (by omega)).trans hp1
  refine g_ireturn (ty := .int) rfl rfl rfl ?_
  exact ⟨rfl, tE_tr e1 (e2), ap_as t2⟩
theorem m112 {d p ci : Nat} {s c : Int32} {P : Int32 → Int32} {Lp : List Int32} (hc : ci ∈ bCutL) (hp3 : 79 ≤ p) (hP : bB 4 (sVt 1003 ci) p ci s c P Lp) : bB (d + 7) 112 p ci s c (fun x => P (x - (cD c (Int8.ofInt 100).toInt32)) * Int32.ofInt 2 * Int32.ofInt 3) ((Int8.ofInt 71).toInt32 :: (Int8.ofInt 30).toInt32 :: (Int8.ofInt 11).toInt32 :: Lp) := by
  obtain ⟨hg, h11, -⟩ := cut_ty hc
  intro h l x hp t hl
  obtain ⟨so0, el0, h3, -⟩ := id t
  refine sDo_of (d := d + 6) (nL := 2) (L := [some (.ref p), some (.int x)]) rfl rfl ?_
  refine g_aload_n (i := 0) rfl rfl ?_
  refine g_getfield (v := .ref 3) rfl hp hg rfl ?_
  refine g_bipush (n := 71) rfl ?_
  refine g_virt1 rfl (by decide) rfl h3 rfl (Nat.le_of_ble_eq_true rfl) (sDo_up (d := 1) (by omega) (s_append (d := 0) t (by rw [List.length_cons] at hl; omega))) (fun r h1 hq => ?_)
  obtain ⟨rfl, e1, t1⟩ := hq
  have hp1 := (tE_at e1 (by omega) (by omega)).trans hp
  refine g_aload_n (i := 0) rfl rfl ?_
  refine g_iload_n (i := 1) rfl rfl ?_
  refine g_aload_n (i := 0) rfl rfl ?_
  refine g_getfield (v := .int (cD c (Int8.ofInt 100).toInt32)) rfl hp1 hg rfl ?_
  refine g_isub rfl ?_
  refine g_init1 rfl (by decide) rfl hp1 (Nat.le_of_ble_eq_true rfl) (sDo_up (d := 6) (by omega) (m8 (d := 0) hc hp3 hP _ _ _ hp1 t1 (by simp only [List.length_append, List.length_cons, List.length_nil] at hl ⊢; omega))) (fun r h2 hq => ?_)
  obtain ⟨rfl, e2, t2⟩ := hq
  have hp2 := (tE_at e2 (by omega) (by omega)).trans hp1
  refine g_ireturn (ty := .int) rfl rfl rfl ?_
  exact ⟨rfl, tE_tr e1 (e2), ap_as t2⟩
theorem m15 {d p ci : Nat} {s c : Int32} {P Wf : Int32 → Int32} {Lp Lw : List Int32} (hc : ci ∈ bCutL) (hp3 : 79 ≤ p) (hP : bB 4 (sVt 1003 ci) p ci s c P Lp) (hW : bB 7 (sVt 1004 ci) p ci s c Wf Lw) : bB (d + 8) 15 p ci s c (fun x => Wf x ^^^ P (x - (cD c (Int8.ofInt 100).toInt32))) ((Int8.ofInt 12).toInt32 :: (Lw ++ Lp)) := by
  obtain ⟨hg, h11, -⟩ := cut_ty hc
  intro h l x hp t hl
  obtain ⟨so0, el0, h3, -⟩ := id t
  refine sDo_of (d := d + 7) (nL := 2) (L := [some (.ref p), some (.int x)]) rfl rfl ?_
  refine g_aload_n (i := 0) rfl rfl ?_
  refine g_getfield (v := .ref 3) rfl hp hg rfl ?_
  refine g_bipush (n := 12) rfl ?_
  refine g_virt1 rfl (by decide) rfl h3 rfl (Nat.le_of_ble_eq_true rfl) (sDo_up (d := 1) (by omega) (s_append (d := 0) t (by rw [List.length_cons] at hl; omega))) (fun r h1 hq => ?_)
  obtain ⟨rfl, e1, t1⟩ := hq
  have hp1 := (tE_at e1 (by omega) (by omega)).trans hp
  refine g_aload_n (i := 0) rfl rfl ?_
  refine g_iload_n (i := 1) rfl rfl ?_
  refine g_fam rfl (by decide) hp1 ⟨hg, h11⟩ (Nat.le_of_ble_eq_true rfl) (sDo_up (d := 7) (by omega) (hW _ _ _ hp1 t1 (by simp only [List.length_append, List.length_cons, List.length_nil] at hl ⊢; omega))) (fun r h2 hq => ?_)
  obtain ⟨rfl, e2, t2⟩ := hq
  have hp2 := (tE_at e2 (by omega) (by omega)).trans hp1
  refine g_aload_n (i := 0) rfl rfl ?_
  refine g_iload_n (i := 1) rfl rfl ?_
  refine g_aload_n (i := 0) rfl rfl ?_
  refine g_getfield (v := .int (cD c (Int8.ofInt 100).toInt32)) rfl hp2 hg rfl ?_
  refine g_isub rfl ?_
  refine g_fam rfl (by decide) hp2 ⟨hg, h11⟩ (Nat.le_of_ble_eq_true rfl) (sDo_up (d := 4) (by omega) (hP _ _ _ hp2 t2 (by simp only [List.length_append, List.length_cons, List.length_nil] at hl ⊢; omega))) (fun r h3 hq => ?_)
  obtain ⟨rfl, e3, t3⟩ := hq
  have hp3 := (tE_at e3 (by omega) (by omega)).trans hp2
  refine g_ixor rfl ?_
  refine g_ireturn (ty := .int) rfl rfl rfl ?_
  exact ⟨rfl, tE_tr e1 (tE_tr e2 (e3)), ap_as (by rw [← List.append_assoc]; exact t3)⟩
theorem m58 {d p ci : Nat} {s c : Int32} {P Wf : Int32 → Int32} {Lp Lw : List Int32} (hc : ci ∈ bCutL) (hp3 : 79 ≤ p) (hP : bB 4 (sVt 1003 ci) p ci s c P Lp) (hW : bB 7 (sVt 1004 ci) p ci s c Wf Lw) : bB (d + 9) 58 p ci s c (fun x => (Wf x ^^^ P (x - (cD c (Int8.ofInt 100).toInt32))) ^^^ Int32.ofInt 5) ((Int8.ofInt 60).toInt32 :: (Int8.ofInt 12).toInt32 :: (Lw ++ Lp)) := by
  obtain ⟨hg, h11, -⟩ := cut_ty hc
  intro h l x hp t hl
  obtain ⟨so0, el0, h3, -⟩ := id t
  refine sDo_of (d := d + 8) (nL := 2) (L := [some (.ref p), some (.int x)]) rfl rfl ?_
  refine g_aload_n (i := 0) rfl rfl ?_
  refine g_getfield (v := .ref 3) rfl hp hg rfl ?_
  refine g_bipush (n := 60) rfl ?_
  refine g_virt1 rfl (by decide) rfl h3 rfl (Nat.le_of_ble_eq_true rfl) (sDo_up (d := 1) (by omega) (s_append (d := 0) t (by rw [List.length_cons] at hl; omega))) (fun r h1 hq => ?_)
  obtain ⟨rfl, e1, t1⟩ := hq
  have hp1 := (tE_at e1 (by omega) (by omega)).trans hp
  refine g_aload_n (i := 0) rfl rfl ?_
  refine g_iload_n (i := 1) rfl rfl ?_
  refine g_init1 rfl (by decide) rfl hp1 (Nat.le_of_ble_eq_true rfl) (sDo_up (d := 8) (by omega) (m15 (d := 0) hc hp3 hP hW _ _ _ hp1 t1 (by simp only [List.length_append, List.length_cons, List.length_nil] at hl ⊢; omega))) (fun r h2 hq => ?_)
  obtain ⟨rfl, e2, t2⟩ := hq
  have hp2 := (tE_at e2 (by omega) (by omega)).trans hp1
  refine g_iconst (n := 5) rfl ?_
  refine g_ixor rfl ?_
  refine g_ireturn (ty := .int) rfl rfl rfl ?_
  exact ⟨rfl, tE_tr e1 (e2), ap_as t2⟩
theorem m63 {d p ci : Nat} {s c : Int32} {P Wf : Int32 → Int32} {Lp Lw : List Int32} (hc : ci ∈ bCutL) (hp3 : 79 ≤ p) (hP : bB 4 (sVt 1003 ci) p ci s c P Lp) (hW : bB 7 (sVt 1004 ci) p ci s c Wf Lw) : bB (d + 9) 63 p ci s c (fun x => (Wf x ^^^ P (x - (cD c (Int8.ofInt 100).toInt32))) - s) ((Int8.ofInt 40).toInt32 :: (Int8.ofInt 12).toInt32 :: (Lw ++ Lp)) := by
  obtain ⟨hg, h11, -⟩ := cut_ty hc
  intro h l x hp t hl
  obtain ⟨so0, el0, h3, -⟩ := id t
  refine sDo_of (d := d + 8) (nL := 2) (L := [some (.ref p), some (.int x)]) rfl rfl ?_
  refine g_aload_n (i := 0) rfl rfl ?_
  refine g_getfield (v := .ref 3) rfl hp hg rfl ?_
  refine g_bipush (n := 40) rfl ?_
  refine g_virt1 rfl (by decide) rfl h3 rfl (Nat.le_of_ble_eq_true rfl) (sDo_up (d := 1) (by omega) (s_append (d := 0) t (by rw [List.length_cons] at hl; omega))) (fun r h1 hq => ?_)
  obtain ⟨rfl, e1, t1⟩ := hq
  have hp1 := (tE_at e1 (by omega) (by omega)).trans hp
  refine g_aload_n (i := 0) rfl rfl ?_
  refine g_iload_n (i := 1) rfl rfl ?_
  refine g_init1 rfl (by decide) rfl hp1 (Nat.le_of_ble_eq_true rfl) (sDo_up (d := 8) (by omega) (m15 (d := 0) hc hp3 hP hW _ _ _ hp1 t1 (by simp only [List.length_append, List.length_cons, List.length_nil] at hl ⊢; omega))) (fun r h2 hq => ?_)
  obtain ⟨rfl, e2, t2⟩ := hq
  have hp2 := (tE_at e2 (by omega) (by omega)).trans hp1
  refine g_aload_n (i := 0) rfl rfl ?_
  refine g_getfield (v := .int s) rfl hp2 hg rfl ?_
  refine g_isub rfl ?_
  refine g_ireturn (ty := .int) rfl rfl rfl ?_
  exact ⟨rfl, tE_tr e1 (e2), ap_as t2⟩
theorem bB_up {d d' k p ci : Nat} {s c : Int32} {val : Int32 → Int32} {L : List Int32} (a : bB d k p ci s c val L) (h : d ≤ d') : bB d' k p ci s c val L := fun h' l x hp t hl => sDo_up h (a h' l x hp t hl)
def bKl7 (k : Nat) : Nat := [2, 9, 1, 5, 0, 4, 10].getD k 2
theorem fam_p {k p : Nat} {s c : Int32} (hk : k < 7) (hp3 : 79 ≤ p) : bB 4 (sVt 1003 (bKl7 k)) p (bKl7 k) s c (pv k s (cD c (Int8.ofInt 100).toInt32)) (pL k) := by
  match k, hk with
  | 0, _ => exact bB_up (m13 (d := 0) (ci := 2) (by decide) hp3) (by omega)
  | 1, _ => exact bB_up (m107 (d := 0) (ci := 9) (by decide) hp3) (by omega)
  | 2, _ => exact bB_up (m13 (d := 0) (ci := 1) (by decide) hp3) (by omega)
  | 3, _ => exact bB_up (m13 (d := 0) (ci := 5) (by decide) hp3) (by omega)
  | 4, _ => exact bB_up (m4 (d := 0) (ci := 0) (by decide) hp3) (by omega)
  | 5, _ => exact bB_up (m107 (d := 0) (ci := 4) (by decide) hp3) (by omega)
  | 6, _ => exact bB_up (m111 (d := 0) (ci := 10) (by decide) hp3) (by omega)
  | k + 7, hk => exact absurd hk (by omega)
theorem fam_w {k p : Nat} {s c : Int32} (hk : k < 7) (hp3 : 79 ≤ p) : bB 7 (sVt 1004 (bKl7 k)) p (bKl7 k) s c (wv k s (cD c (Int8.ofInt 100).toInt32)) (wL k) := by
  match k, hk with
  | 0, _ => exact bB_up (m14 (d := 0) (ci := 2) (by decide) hp3 (fam_p (k := 0) (by decide) hp3)) (by omega)
  | 1, _ => exact bB_up (m14 (d := 0) (ci := 9) (by decide) hp3 (fam_p (k := 1) (by decide) hp3)) (by omega)
  | 2, _ => exact bB_up (m8 (d := 0) (ci := 1) (by decide) hp3 (fam_p (k := 2) (by decide) hp3)) (by omega)
  | 3, _ => exact bB_up (m14 (d := 0) (ci := 5) (by decide) hp3 (fam_p (k := 3) (by decide) hp3)) (by omega)
  | 4, _ => exact bB_up (m3 (d := 0) (ci := 0) (by decide) hp3 (fam_p (k := 4) (by decide) hp3)) (by omega)
  | 5, _ => exact bB_up (m14 (d := 0) (ci := 4) (by decide) hp3 (fam_p (k := 5) (by decide) hp3)) (by omega)
  | 6, _ => exact bB_up (m112 (d := 0) (ci := 10) (by decide) hp3 (fam_p (k := 6) (by decide) hp3)) (by omega)
  | k + 7, hk => exact absurd hk (by omega)
theorem fam_h {k p : Nat} {s c : Int32} (hk : k < 7) (hp3 : 79 ≤ p) : bB 9 (sVt 1005 (bKl7 k)) p (bKl7 k) s c (hv k s (cD c (Int8.ofInt 100).toInt32)) (hL k) := by
  match k, hk with
  | 0, _ => exact bB_up (m15 (d := 0) (ci := 2) (by decide) hp3 (fam_p (k := 0) (by decide) hp3) (fam_w (k := 0) (by decide) hp3)) (by omega)
  | 1, _ => exact bB_up (m15 (d := 0) (ci := 9) (by decide) hp3 (fam_p (k := 1) (by decide) hp3) (fam_w (k := 1) (by decide) hp3)) (by omega)
  | 2, _ => exact bB_up (m15 (d := 0) (ci := 1) (by decide) hp3 (fam_p (k := 2) (by decide) hp3) (fam_w (k := 2) (by decide) hp3)) (by omega)
  | 3, _ => exact bB_up (m63 (d := 0) (ci := 5) (by decide) hp3 (fam_p (k := 3) (by decide) hp3) (fam_w (k := 3) (by decide) hp3)) (by omega)
  | 4, _ => exact bB_up (m15 (d := 0) (ci := 0) (by decide) hp3 (fam_p (k := 4) (by decide) hp3) (fam_w (k := 4) (by decide) hp3)) (by omega)
  | 5, _ => exact bB_up (m58 (d := 0) (ci := 4) (by decide) hp3 (fam_p (k := 5) (by decide) hp3) (fam_w (k := 5) (by decide) hp3)) (by omega)
  | 6, _ => exact bB_up (m15 (d := 0) (ci := 10) (by decide) hp3 (fam_p (k := 6) (by decide) hp3) (fam_w (k := 6) (by decide) hp3)) (by omega)
  | k + 7, hk => exact absurd hk (by omega)
end
section
/-! ===== the trace: the reference, the pairs ===== -/
def tR (h : sHp) (l : List Int32) : Prop := ∃ (fs : List Value) (tr : Nat → Int32), h[60]? = some (.inr (12, fs)) ∧ fs[14]? = some (.ref 67) ∧ fs[17]? = some (.ref 70) ∧ fs[35]? = some (.ref 78) ∧ fs[36]? = some (.int (Int32.ofNat l.length)) ∧ h[78]? = some (.inl (0, 20, .inl tr)) ∧ ∀ i v, l[i]? = some v → tr i = v
def tG (h h' : sHp) : Prop := ∃ c60 c78, h' = (h.set 78 c78).set 60 c60
theorem tG_tr {h h1 h2 : sHp} (a : tG h h1) (b : tG h1 h2) : tG h h2 := by
  obtain ⟨c3, c4, rfl⟩ := a
  obtain ⟨d3, d4, rfl⟩ := b
  refine ⟨d3, d4, ?_⟩
  rw [List.set_comm (i := 60) (j := 78) _ _ (by decide), List.set_set, List.set_set]
theorem tG_at {h h' : sHp} (a : tG h h') {p : Nat} (h3 : p ≠ 60) (h4 : p ≠ 78) : h'[p]? = h[p]? := by
  obtain ⟨c3, c4, rfl⟩ := a
  rw [s_set_ne (by omega), s_set_ne (by omega)]
theorem s_body {d : Nat} {h : sHp} {l : List Int32} {v : Int32} (t : tR h l) (hl : l.length < 20) : sDo (d + 1) 248 [.ref 60, .int v] h (fun r h' => r = none ∧ tG h h' ∧ tR h' (l ++ [v])) := by
  obtain ⟨fs, tr, hf, f14, f17, f35, f36, h78, ht⟩ := t
  have en := ofN_toInt (n := l.length) (by omega)
  have e20 : (Int8.ofInt 20).toInt32.toInt = 20 := rfl
  have hln : 36 < fs.length := (List.getElem?_eq_some_iff.mp f36).1
  refine sDo_of (d := d) (nL := 2) (L := [some (.ref 60), some (.int v)]) rfl rfl ?_
  refine g_aload_n (i := 0) rfl rfl ?_
  refine g_getfield (v := .int (Int32.ofNat l.length)) rfl hf (by decide) f36 ?_
  refine g_bipush (n := 20) rfl ?_
  refine g_icmp_ge 19 rfl rfl (fun hc => absurd hc (by rw [i_le, e20, en]; omega)) (fun _ => ?_)
  refine g_aload_n (i := 0) rfl rfl ?_
  refine g_getfield (v := .ref 78) rfl hf (by decide) f35 ?_
  refine g_aload_n (i := 0) rfl rfl ?_
  refine g_getfield (v := .int (Int32.ofNat l.length)) rfl hf (by decide) f36 ?_
  refine g_iload_n (i := 1) rfl rfl ?_
  refine g_iastore (h1 := (h.set 78 (.inl (0, 20, .inl (upd tr l.length v))))) rfl h78 (i_in (by omega) (by omega)) (by rw [i_nat en]) ?_
  have hf1 : (h.set 78 (.inl (0, 20, .inl (upd tr l.length v))))[60]? = some (.inr (12, fs)) := by rw [s_set_ne (by decide)]; exact hf
  refine g_aload_n (i := 0) rfl rfl ?_
  refine g_dup rfl rfl ?_
  refine g_getfield (v := .int (Int32.ofNat l.length)) rfl hf1 (by decide) f36 ?_
  refine g_iconst (n := 1) rfl ?_
  refine g_iadd rfl ?_
  rw [ofN_add (by omega)]
  refine g_putfield (h1 := (h.set 78 (.inl (0, 20, .inl (upd tr l.length v)))).set 60 (.inr (12, fs.set 36 (.int (Int32.ofNat (l.length + 1)))))) rfl hf1 (by decide) hln rfl rfl ?_
  refine g_return rfl rfl ?_
  refine ⟨rfl, ⟨_, _, rfl⟩, fs.set 36 (.int (Int32.ofNat (l.length + 1))), upd tr l.length v, s_set_eq hf1, by rw [List.getElem?_set_ne (by decide)]; exact f14, by rw [List.getElem?_set_ne (by decide)]; exact f17, by rw [List.getElem?_set_ne (by decide)]; exact f35, by rw [List.length_append]; exact List.getElem?_set_self hln, by rw [s_set_ne (by decide)]; exact s_set_eq h78, fun i w hw => ?_⟩
  rcases app1_at hw with ⟨k1, k2⟩ | ⟨k1, k2⟩
  · rw [u_ne (by omega)]
    exact ht i w k2
  · rw [k1, u_at, k2]
theorem rp_as {l L : List Int32} {v : Int32} {h : sHp} (t : tR h (l ++ [v] ++ L)) : tR h (l ++ (v :: L)) := by
  rw [List.append_assoc] at t
  exact t
def bGx (d k k7 S : Nat) (s : Int32) (co : Nat → Int32) (val : Int32 → Int32) (L : List Int32) : Prop := ∀ (h : sHp) (l : List Int32) (x : Int32), tR h l → h[70]? = some (.inl (0, 8, .inl co)) → l.length + L.length ≤ 20 → sDo d k [.ref 60, .int s, .int x] h (fun r h' => r = some (.int (val x)) ∧ tG h h' ∧ tR h' (l ++ L))
theorem k7_of {c : Int32} {k : Nat} (c0 : 0 ≤ c.toInt) (hk : c.toInt / 1000 = k) (h7 : k < 7) : c / (Int16.ofInt 1000).toInt32 = Int32.ofNat k := by
  have e1000 : (Int16.ofInt 1000).toInt32.toInt = 1000 := rfl
  apply Int32.toInt_inj.mp
  rw [i_dvn c0 (by decide), e1000, hk, Int32.toInt_ofNat_of_lt (by omega)]
theorem gp_0 {d : Nat} {S : Nat} {s : Int32} {co : Nat → Int32} (hs : s.toInt = S) (hS : S < 8) (c0 : 0 ≤ (co S).toInt) (hk : (co S).toInt / 1000 = (0 : Nat)) : bGx (d + 2) 249 0 S s co (pv 0 s (cD (co S) (Int8.ofInt 100).toInt32)) (pL 0) := by
  intro h l x t h70 hl
  obtain ⟨fs0, tr0, hf0, f14_0, f17_0, f35_0, f36_0, -⟩ := id t
  have sn : s.toNatClampNeg = S := i_nat hs
  unfold pL at hl
  unfold pL
  refine sDo_of (d := d + 1) (nL := 6) (L := [some (.ref 60), some (.int s), some (.int x), none, none, none]) rfl rfl ?_
  refine g_aload_n (i := 0) rfl rfl ?_
  refine g_getfield (v := .ref 70) rfl hf0 (by decide) f17_0 ?_
  refine g_iload_n (i := 1) rfl rfl ?_
  refine g_ialv (n := 8) (f := co) (v := co S) rfl h70 (i_in (by omega) (by omega)) (congrArg co sn) ?_
  refine g_sipush (n := 1000) rfl ?_
  refine g_idiv rfl (by decide) ?_
  rw [k7_of c0 hk (by decide)]
  refine g_istore_n (i := 3) (L1 := [some (.ref 60), some (.int s), some (.int x), some (.int (Int32.ofNat 0)), none, none]) rfl (Nat.le_of_ble_eq_true rfl) rfl ?_
  refine g_iload_n (i := 3) rfl rfl ?_
  refine g_iconst (n := 1) rfl ?_
  refine g_icmp_eq 26 rfl rfl (fun hc => absurd hc (by decide)) (fun _ => ?_)
  refine g_iload_n (i := 3) rfl rfl ?_
  refine g_iconst (n := 4) rfl ?_
  refine g_icmp_eq 26 rfl rfl (fun hc => absurd hc (by decide)) (fun _ => ?_)
  refine g_iload_n (i := 3) rfl rfl ?_
  refine g_iconst (n := 5) rfl ?_
  refine g_icmp_ne 30 rfl rfl (fun _ => ?_) (fun hc => absurd hc (by decide))
  refine g_iconst (n := 0) rfl ?_
  refine g_istore (i := 4) (L1 := [some (.ref 60), some (.int s), some (.int x), some (.int (Int32.ofNat 0)), some (.int (Int32.ofInt 0)), none]) rfl (Nat.le_of_ble_eq_true rfl) rfl ?_
  refine g_iload_n (i := 3) rfl rfl ?_
  refine g_iconst (n := 4) rfl ?_
  refine g_icmp_ne 44 rfl rfl (fun _ => ?_) (fun hc => absurd hc (by decide))
  refine g_iload (i := 4) rfl rfl ?_
  refine g_if_eq 55 rfl rfl (fun _ => ?_) (fun hc => absurd hc (by decide))
  refine g_iload_n (i := 3) rfl rfl ?_
  refine g_bipush (n := 6) rfl ?_
  refine g_icmp_ne 67 rfl rfl (fun _ => ?_) (fun hc => absurd hc (by decide))
  refine g_aload_n (i := 0) rfl rfl ?_
  refine g_bipush (n := 10) rfl ?_
  refine g_virt1 rfl (by decide) rfl hf0 rfl (Nat.le_of_ble_eq_true rfl) (sDo_up (d := 1) (by omega) (s_body (d := 0) t (by simp only [List.length_append, List.length_cons, List.length_nil] at hl ⊢; omega))) (fun r h1 hq => ?_)
  obtain ⟨rfl, e1, t1⟩ := hq
  obtain ⟨fs1, tr1, hf1, f14_1, f17_1, f35_1, f36_1, -⟩ := id t1
  have h70_1 := (tG_at e1 (p := 70) (by decide) (by decide)).trans h70
  refine g_iload_n (i := 2) rfl rfl ?_
  refine g_iload_n (i := 1) rfl rfl ?_
  refine g_iadd rfl ?_
  refine g_istore (i := 5) (L1 := [some (.ref 60), some (.int s), some (.int x), some (.int (Int32.ofNat 0)), some (.int (Int32.ofInt 0)), some (.int (x + s))]) rfl (Nat.le_of_ble_eq_true rfl) rfl ?_
  refine g_iload (i := 4) rfl rfl ?_
  refine g_if_eq 100 rfl rfl (fun _ => ?_) (fun hc => absurd hc (by decide))
  refine g_iload_n (i := 3) rfl rfl ?_
  refine g_iconst (n := 4) rfl ?_
  refine g_icmp_ne 111 rfl rfl (fun _ => ?_) (fun hc => absurd hc (by decide))
  refine g_iload_n (i := 3) rfl rfl ?_
  refine g_bipush (n := 6) rfl ?_
  refine g_icmp_ne 124 rfl rfl (fun _ => ?_) (fun hc => absurd hc (by decide))
  refine g_iload (i := 5) rfl rfl ?_
  refine g_ireturn (ty := .int) rfl rfl rfl ?_
  exact ⟨rfl, e1, by simpa only [List.append_assoc, List.cons_append, List.nil_append] using t1⟩
theorem gp_1 {d : Nat} {S : Nat} {s : Int32} {co : Nat → Int32} (hs : s.toInt = S) (hS : S < 8) (c0 : 0 ≤ (co S).toInt) (hk : (co S).toInt / 1000 = (1 : Nat)) : bGx (d + 2) 249 1 S s co (pv 1 s (cD (co S) (Int8.ofInt 100).toInt32)) (pL 1) := by
  intro h l x t h70 hl
  obtain ⟨fs0, tr0, hf0, f14_0, f17_0, f35_0, f36_0, -⟩ := id t
  have sn : s.toNatClampNeg = S := i_nat hs
  unfold pL at hl
  unfold pL
  refine sDo_of (d := d + 1) (nL := 6) (L := [some (.ref 60), some (.int s), some (.int x), none, none, none]) rfl rfl ?_
  refine g_aload_n (i := 0) rfl rfl ?_
  refine g_getfield (v := .ref 70) rfl hf0 (by decide) f17_0 ?_
  refine g_iload_n (i := 1) rfl rfl ?_
  refine g_ialv (n := 8) (f := co) (v := co S) rfl h70 (i_in (by omega) (by omega)) (congrArg co sn) ?_
  refine g_sipush (n := 1000) rfl ?_
  refine g_idiv rfl (by decide) ?_
  rw [k7_of c0 hk (by decide)]
  refine g_istore_n (i := 3) (L1 := [some (.ref 60), some (.int s), some (.int x), some (.int (Int32.ofNat 1)), none, none]) rfl (Nat.le_of_ble_eq_true rfl) rfl ?_
  refine g_iload_n (i := 3) rfl rfl ?_
  refine g_iconst (n := 1) rfl ?_
  refine g_icmp_eq 26 rfl rfl (fun _ => ?_) (fun hc => absurd hc (by decide))
  refine g_iconst (n := 1) rfl ?_
  refine g_goto 31 rfl rfl ?_
  refine g_istore (i := 4) (L1 := [some (.ref 60), some (.int s), some (.int x), some (.int (Int32.ofNat 1)), some (.int (Int32.ofInt 1)), none]) rfl (Nat.le_of_ble_eq_true rfl) rfl ?_
  refine g_iload_n (i := 3) rfl rfl ?_
  refine g_iconst (n := 4) rfl ?_
  refine g_icmp_ne 44 rfl rfl (fun _ => ?_) (fun hc => absurd hc (by decide))
  refine g_iload (i := 4) rfl rfl ?_
  refine g_if_eq 55 rfl rfl (fun hc => absurd hc (by decide)) (fun _ => ?_)
  refine g_aload_n (i := 0) rfl rfl ?_
  refine g_bipush (n := 20) rfl ?_
  refine g_virt1 rfl (by decide) rfl hf0 rfl (Nat.le_of_ble_eq_true rfl) (sDo_up (d := 1) (by omega) (s_body (d := 0) t (by simp only [List.length_append, List.length_cons, List.length_nil] at hl ⊢; omega))) (fun r h1 hq => ?_)
  obtain ⟨rfl, e1, t1⟩ := hq
  obtain ⟨fs1, tr1, hf1, f14_1, f17_1, f35_1, f36_1, -⟩ := id t1
  have h70_1 := (tG_at e1 (p := 70) (by decide) (by decide)).trans h70
  refine g_iload_n (i := 3) rfl rfl ?_
  refine g_bipush (n := 6) rfl ?_
  refine g_icmp_ne 67 rfl rfl (fun _ => ?_) (fun hc => absurd hc (by decide))
  refine g_aload_n (i := 0) rfl rfl ?_
  refine g_bipush (n := 10) rfl ?_
  refine g_virt1 rfl (by decide) rfl hf1 rfl (Nat.le_of_ble_eq_true rfl) (sDo_up (d := 1) (by omega) (s_body (d := 0) t1 (by simp only [List.length_append, List.length_cons, List.length_nil] at hl ⊢; omega))) (fun r h2 hq => ?_)
  obtain ⟨rfl, e2, t2⟩ := hq
  obtain ⟨fs2, tr2, hf2, f14_2, f17_2, f35_2, f36_2, -⟩ := id t2
  have h70_2 := (tG_at e2 (p := 70) (by decide) (by decide)).trans h70_1
  refine g_iload_n (i := 2) rfl rfl ?_
  refine g_iload_n (i := 1) rfl rfl ?_
  refine g_iadd rfl ?_
  refine g_istore (i := 5) (L1 := [some (.ref 60), some (.int s), some (.int x), some (.int (Int32.ofNat 1)), some (.int (Int32.ofInt 1)), some (.int (x + s))]) rfl (Nat.le_of_ble_eq_true rfl) rfl ?_
  refine g_iload (i := 4) rfl rfl ?_
  refine g_if_eq 100 rfl rfl (fun hc => absurd hc (by decide)) (fun _ => ?_)
  refine g_iload (i := 5) rfl rfl ?_
  refine g_aload_n (i := 0) rfl rfl ?_
  refine g_getfield (v := .ref 70) rfl hf2 (by decide) f17_2 ?_
  refine g_iload_n (i := 1) rfl rfl ?_
  refine g_ialv (n := 8) (f := co) (v := co S) rfl h70_2 (i_in (by omega) (by omega)) (congrArg co sn) ?_
  refine g_bipush (n := 100) rfl ?_
  refine g_idiv rfl (by decide) ?_
  refine g_bipush (n := 10) rfl ?_
  refine g_irem rfl (by decide) ?_
  refine g_iadd rfl ?_
  refine g_istore (i := 5) (L1 := [some (.ref 60), some (.int s), some (.int x), some (.int (Int32.ofNat 1)), some (.int (Int32.ofInt 1)), some (.int ((x + s) + (((co S) / (Int8.ofInt 100).toInt32) - ((co S) / (Int8.ofInt 100).toInt32) / (Int8.ofInt 10).toInt32 * (Int8.ofInt 10).toInt32)))]) rfl (Nat.le_of_ble_eq_true rfl) rfl ?_
  refine g_iload_n (i := 3) rfl rfl ?_
  refine g_iconst (n := 4) rfl ?_
  refine g_icmp_ne 111 rfl rfl (fun _ => ?_) (fun hc => absurd hc (by decide))
  refine g_iload_n (i := 3) rfl rfl ?_
  refine g_bipush (n := 6) rfl ?_
  refine g_icmp_ne 124 rfl rfl (fun _ => ?_) (fun hc => absurd hc (by decide))
  refine g_iload (i := 5) rfl rfl ?_
  refine g_ireturn (ty := .int) rfl rfl rfl ?_
  exact ⟨rfl, tG_tr e1 (e2), by simpa only [List.append_assoc, List.cons_append, List.nil_append] using t2⟩
theorem gp_2 {d : Nat} {S : Nat} {s : Int32} {co : Nat → Int32} (hs : s.toInt = S) (hS : S < 8) (c0 : 0 ≤ (co S).toInt) (hk : (co S).toInt / 1000 = (2 : Nat)) : bGx (d + 2) 249 2 S s co (pv 2 s (cD (co S) (Int8.ofInt 100).toInt32)) (pL 2) := by
  intro h l x t h70 hl
  obtain ⟨fs0, tr0, hf0, f14_0, f17_0, f35_0, f36_0, -⟩ := id t
  have sn : s.toNatClampNeg = S := i_nat hs
  unfold pL at hl
  unfold pL
  refine sDo_of (d := d + 1) (nL := 6) (L := [some (.ref 60), some (.int s), some (.int x), none, none, none]) rfl rfl ?_
  refine g_aload_n (i := 0) rfl rfl ?_
  refine g_getfield (v := .ref 70) rfl hf0 (by decide) f17_0 ?_
  refine g_iload_n (i := 1) rfl rfl ?_
  refine g_ialv (n := 8) (f := co) (v := co S) rfl h70 (i_in (by omega) (by omega)) (congrArg co sn) ?_
  refine g_sipush (n := 1000) rfl ?_
  refine g_idiv rfl (by decide) ?_
  rw [k7_of c0 hk (by decide)]
  refine g_istore_n (i := 3) (L1 := [some (.ref 60), some (.int s), some (.int x), some (.int (Int32.ofNat 2)), none, none]) rfl (Nat.le_of_ble_eq_true rfl) rfl ?_
  refine g_iload_n (i := 3) rfl rfl ?_
  refine g_iconst (n := 1) rfl ?_
  refine g_icmp_eq 26 rfl rfl (fun hc => absurd hc (by decide)) (fun _ => ?_)
  refine g_iload_n (i := 3) rfl rfl ?_
  refine g_iconst (n := 4) rfl ?_
  refine g_icmp_eq 26 rfl rfl (fun hc => absurd hc (by decide)) (fun _ => ?_)
  refine g_iload_n (i := 3) rfl rfl ?_
  refine g_iconst (n := 5) rfl ?_
  refine g_icmp_ne 30 rfl rfl (fun _ => ?_) (fun hc => absurd hc (by decide))
  refine g_iconst (n := 0) rfl ?_
  refine g_istore (i := 4) (L1 := [some (.ref 60), some (.int s), some (.int x), some (.int (Int32.ofNat 2)), some (.int (Int32.ofInt 0)), none]) rfl (Nat.le_of_ble_eq_true rfl) rfl ?_
  refine g_iload_n (i := 3) rfl rfl ?_
  refine g_iconst (n := 4) rfl ?_
  refine g_icmp_ne 44 rfl rfl (fun _ => ?_) (fun hc => absurd hc (by decide))
  refine g_iload (i := 4) rfl rfl ?_
  refine g_if_eq 55 rfl rfl (fun _ => ?_) (fun hc => absurd hc (by decide))
  refine g_iload_n (i := 3) rfl rfl ?_
  refine g_bipush (n := 6) rfl ?_
  refine g_icmp_ne 67 rfl rfl (fun _ => ?_) (fun hc => absurd hc (by decide))
  refine g_aload_n (i := 0) rfl rfl ?_
  refine g_bipush (n := 10) rfl ?_
  refine g_virt1 rfl (by decide) rfl hf0 rfl (Nat.le_of_ble_eq_true rfl) (sDo_up (d := 1) (by omega) (s_body (d := 0) t (by simp only [List.length_append, List.length_cons, List.length_nil] at hl ⊢; omega))) (fun r h1 hq => ?_)
  obtain ⟨rfl, e1, t1⟩ := hq
  obtain ⟨fs1, tr1, hf1, f14_1, f17_1, f35_1, f36_1, -⟩ := id t1
  have h70_1 := (tG_at e1 (p := 70) (by decide) (by decide)).trans h70
  refine g_iload_n (i := 2) rfl rfl ?_
  refine g_iload_n (i := 1) rfl rfl ?_
  refine g_iadd rfl ?_
  refine g_istore (i := 5) (L1 := [some (.ref 60), some (.int s), some (.int x), some (.int (Int32.ofNat 2)), some (.int (Int32.ofInt 0)), some (.int (x + s))]) rfl (Nat.le_of_ble_eq_true rfl) rfl ?_
  refine g_iload (i := 4) rfl rfl ?_
  refine g_if_eq 100 rfl rfl (fun _ => ?_) (fun hc => absurd hc (by decide))
  refine g_iload_n (i := 3) rfl rfl ?_
  refine g_iconst (n := 4) rfl ?_
  refine g_icmp_ne 111 rfl rfl (fun _ => ?_) (fun hc => absurd hc (by decide))
  refine g_iload_n (i := 3) rfl rfl ?_
  refine g_bipush (n := 6) rfl ?_
  refine g_icmp_ne 124 rfl rfl (fun _ => ?_) (fun hc => absurd hc (by decide))
  refine g_iload (i := 5) rfl rfl ?_
  refine g_ireturn (ty := .int) rfl rfl rfl ?_
  exact ⟨rfl, e1, by simpa only [List.append_assoc, List.cons_append, List.nil_append] using t1⟩
theorem gp_3 {d : Nat} {S : Nat} {s : Int32} {co : Nat → Int32} (hs : s.toInt = S) (hS : S < 8) (c0 : 0 ≤ (co S).toInt) (hk : (co S).toInt / 1000 = (3 : Nat)) : bGx (d + 2) 249 3 S s co (pv 3 s (cD (co S) (Int8.ofInt 100).toInt32)) (pL 3) := by
  intro h l x t h70 hl
  obtain ⟨fs0, tr0, hf0, f14_0, f17_0, f35_0, f36_0, -⟩ := id t
  have sn : s.toNatClampNeg = S := i_nat hs
  unfold pL at hl
  unfold pL
  refine sDo_of (d := d + 1) (nL := 6) (L := [some (.ref 60), some (.int s), some (.int x), none, none, none]) rfl rfl ?_
  refine g_aload_n (i := 0) rfl rfl ?_
  refine g_getfield (v := .ref 70) rfl hf0 (by decide) f17_0 ?_
  refine g_iload_n (i := 1) rfl rfl ?_
  refine g_ialv (n := 8) (f := co) (v := co S) rfl h70 (i_in (by omega) (by omega)) (congrArg co sn) ?_
  refine g_sipush (n := 1000) rfl ?_
  refine g_idiv rfl (by decide) ?_
  rw [k7_of c0 hk (by decide)]
  refine g_istore_n (i := 3) (L1 := [some (.ref 60), some (.int s), some (.int x), some (.int (Int32.ofNat 3)), none, none]) rfl (Nat.le_of_ble_eq_true rfl) rfl ?_
  refine g_iload_n (i := 3) rfl rfl ?_
  refine g_iconst (n := 1) rfl ?_
  refine g_icmp_eq 26 rfl rfl (fun hc => absurd hc (by decide)) (fun _ => ?_)
  refine g_iload_n (i := 3) rfl rfl ?_
  refine g_iconst (n := 4) rfl ?_
  refine g_icmp_eq 26 rfl rfl (fun hc => absurd hc (by decide)) (fun _ => ?_)
  refine g_iload_n (i := 3) rfl rfl ?_
  refine g_iconst (n := 5) rfl ?_
  refine g_icmp_ne 30 rfl rfl (fun _ => ?_) (fun hc => absurd hc (by decide))
  refine g_iconst (n := 0) rfl ?_
  refine g_istore (i := 4) (L1 := [some (.ref 60), some (.int s), some (.int x), some (.int (Int32.ofNat 3)), some (.int (Int32.ofInt 0)), none]) rfl (Nat.le_of_ble_eq_true rfl) rfl ?_
  refine g_iload_n (i := 3) rfl rfl ?_
  refine g_iconst (n := 4) rfl ?_
  refine g_icmp_ne 44 rfl rfl (fun _ => ?_) (fun hc => absurd hc (by decide))
  refine g_iload (i := 4) rfl rfl ?_
  refine g_if_eq 55 rfl rfl (fun _ => ?_) (fun hc => absurd hc (by decide))
  refine g_iload_n (i := 3) rfl rfl ?_
  refine g_bipush (n := 6) rfl ?_
  refine g_icmp_ne 67 rfl rfl (fun _ => ?_) (fun hc => absurd hc (by decide))
  refine g_aload_n (i := 0) rfl rfl ?_
  refine g_bipush (n := 10) rfl ?_
  refine g_virt1 rfl (by decide) rfl hf0 rfl (Nat.le_of_ble_eq_true rfl) (sDo_up (d := 1) (by omega) (s_body (d := 0) t (by simp only [List.length_append, List.length_cons, List.length_nil] at hl ⊢; omega))) (fun r h1 hq => ?_)
  obtain ⟨rfl, e1, t1⟩ := hq
  obtain ⟨fs1, tr1, hf1, f14_1, f17_1, f35_1, f36_1, -⟩ := id t1
  have h70_1 := (tG_at e1 (p := 70) (by decide) (by decide)).trans h70
  refine g_iload_n (i := 2) rfl rfl ?_
  refine g_iload_n (i := 1) rfl rfl ?_
  refine g_iadd rfl ?_
  refine g_istore (i := 5) (L1 := [some (.ref 60), some (.int s), some (.int x), some (.int (Int32.ofNat 3)), some (.int (Int32.ofInt 0)), some (.int (x + s))]) rfl (Nat.le_of_ble_eq_true rfl) rfl ?_
  refine g_iload (i := 4) rfl rfl ?_
  refine g_if_eq 100 rfl rfl (fun _ => ?_) (fun hc => absurd hc (by decide))
  refine g_iload_n (i := 3) rfl rfl ?_
  refine g_iconst (n := 4) rfl ?_
  refine g_icmp_ne 111 rfl rfl (fun _ => ?_) (fun hc => absurd hc (by decide))
  refine g_iload_n (i := 3) rfl rfl ?_
  refine g_bipush (n := 6) rfl ?_
  refine g_icmp_ne 124 rfl rfl (fun _ => ?_) (fun hc => absurd hc (by decide))
  refine g_iload (i := 5) rfl rfl ?_
  refine g_ireturn (ty := .int) rfl rfl rfl ?_
  exact ⟨rfl, e1, by simpa only [List.append_assoc, List.cons_append, List.nil_append] using t1⟩
theorem gp_4 {d : Nat} {S : Nat} {s : Int32} {co : Nat → Int32} (hs : s.toInt = S) (hS : S < 8) (c0 : 0 ≤ (co S).toInt) (hk : (co S).toInt / 1000 = (4 : Nat)) : bGx (d + 2) 249 4 S s co (pv 4 s (cD (co S) (Int8.ofInt 100).toInt32)) (pL 4) := by
  intro h l x t h70 hl
  obtain ⟨fs0, tr0, hf0, f14_0, f17_0, f35_0, f36_0, -⟩ := id t
  have sn : s.toNatClampNeg = S := i_nat hs
  unfold pL at hl
  unfold pL
  refine sDo_of (d := d + 1) (nL := 6) (L := [some (.ref 60), some (.int s), some (.int x), none, none, none]) rfl rfl ?_
  refine g_aload_n (i := 0) rfl rfl ?_
  refine g_getfield (v := .ref 70) rfl hf0 (by decide) f17_0 ?_
  refine g_iload_n (i := 1) rfl rfl ?_
  refine g_ialv (n := 8) (f := co) (v := co S) rfl h70 (i_in (by omega) (by omega)) (congrArg co sn) ?_
  refine g_sipush (n := 1000) rfl ?_
  refine g_idiv rfl (by decide) ?_
  rw [k7_of c0 hk (by decide)]
  refine g_istore_n (i := 3) (L1 := [some (.ref 60), some (.int s), some (.int x), some (.int (Int32.ofNat 4)), none, none]) rfl (Nat.le_of_ble_eq_true rfl) rfl ?_
  refine g_iload_n (i := 3) rfl rfl ?_
  refine g_iconst (n := 1) rfl ?_
  refine g_icmp_eq 26 rfl rfl (fun hc => absurd hc (by decide)) (fun _ => ?_)
  refine g_iload_n (i := 3) rfl rfl ?_
  refine g_iconst (n := 4) rfl ?_
  refine g_icmp_eq 26 rfl rfl (fun _ => ?_) (fun hc => absurd hc (by decide))
  refine g_iconst (n := 1) rfl ?_
  refine g_goto 31 rfl rfl ?_
  refine g_istore (i := 4) (L1 := [some (.ref 60), some (.int s), some (.int x), some (.int (Int32.ofNat 4)), some (.int (Int32.ofInt 1)), none]) rfl (Nat.le_of_ble_eq_true rfl) rfl ?_
  refine g_iload_n (i := 3) rfl rfl ?_
  refine g_iconst (n := 4) rfl ?_
  refine g_icmp_ne 44 rfl rfl (fun hc => absurd hc (by decide)) (fun _ => ?_)
  refine g_aload_n (i := 0) rfl rfl ?_
  refine g_bipush (n := 51) rfl ?_
  refine g_virt1 rfl (by decide) rfl hf0 rfl (Nat.le_of_ble_eq_true rfl) (sDo_up (d := 1) (by omega) (s_body (d := 0) t (by simp only [List.length_append, List.length_cons, List.length_nil] at hl ⊢; omega))) (fun r h1 hq => ?_)
  obtain ⟨rfl, e1, t1⟩ := hq
  obtain ⟨fs1, tr1, hf1, f14_1, f17_1, f35_1, f36_1, -⟩ := id t1
  have h70_1 := (tG_at e1 (p := 70) (by decide) (by decide)).trans h70
  refine g_iload (i := 4) rfl rfl ?_
  refine g_if_eq 55 rfl rfl (fun hc => absurd hc (by decide)) (fun _ => ?_)
  refine g_aload_n (i := 0) rfl rfl ?_
  refine g_bipush (n := 20) rfl ?_
  refine g_virt1 rfl (by decide) rfl hf1 rfl (Nat.le_of_ble_eq_true rfl) (sDo_up (d := 1) (by omega) (s_body (d := 0) t1 (by simp only [List.length_append, List.length_cons, List.length_nil] at hl ⊢; omega))) (fun r h2 hq => ?_)
  obtain ⟨rfl, e2, t2⟩ := hq
  obtain ⟨fs2, tr2, hf2, f14_2, f17_2, f35_2, f36_2, -⟩ := id t2
  have h70_2 := (tG_at e2 (p := 70) (by decide) (by decide)).trans h70_1
  refine g_iload_n (i := 3) rfl rfl ?_
  refine g_bipush (n := 6) rfl ?_
  refine g_icmp_ne 67 rfl rfl (fun _ => ?_) (fun hc => absurd hc (by decide))
  refine g_aload_n (i := 0) rfl rfl ?_
  refine g_bipush (n := 10) rfl ?_
  refine g_virt1 rfl (by decide) rfl hf2 rfl (Nat.le_of_ble_eq_true rfl) (sDo_up (d := 1) (by omega) (s_body (d := 0) t2 (by simp only [List.length_append, List.length_cons, List.length_nil] at hl ⊢; omega))) (fun r h3 hq => ?_)
  obtain ⟨rfl, e3, t3⟩ := hq
  obtain ⟨fs3, tr3, hf3, f14_3, f17_3, f35_3, f36_3, -⟩ := id t3
  have h70_3 := (tG_at e3 (p := 70) (by decide) (by decide)).trans h70_2
  refine g_iload_n (i := 2) rfl rfl ?_
  refine g_iload_n (i := 1) rfl rfl ?_
  refine g_iadd rfl ?_
  refine g_istore (i := 5) (L1 := [some (.ref 60), some (.int s), some (.int x), some (.int (Int32.ofNat 4)), some (.int (Int32.ofInt 1)), some (.int (x + s))]) rfl (Nat.le_of_ble_eq_true rfl) rfl ?_
  refine g_iload (i := 4) rfl rfl ?_
  refine g_if_eq 100 rfl rfl (fun hc => absurd hc (by decide)) (fun _ => ?_)
  refine g_iload (i := 5) rfl rfl ?_
  refine g_aload_n (i := 0) rfl rfl ?_
  refine g_getfield (v := .ref 70) rfl hf3 (by decide) f17_3 ?_
  refine g_iload_n (i := 1) rfl rfl ?_
  refine g_ialv (n := 8) (f := co) (v := co S) rfl h70_3 (i_in (by omega) (by omega)) (congrArg co sn) ?_
  refine g_bipush (n := 100) rfl ?_
  refine g_idiv rfl (by decide) ?_
  refine g_bipush (n := 10) rfl ?_
  refine g_irem rfl (by decide) ?_
  refine g_iadd rfl ?_
  refine g_istore (i := 5) (L1 := [some (.ref 60), some (.int s), some (.int x), some (.int (Int32.ofNat 4)), some (.int (Int32.ofInt 1)), some (.int ((x + s) + (((co S) / (Int8.ofInt 100).toInt32) - ((co S) / (Int8.ofInt 100).toInt32) / (Int8.ofInt 10).toInt32 * (Int8.ofInt 10).toInt32)))]) rfl (Nat.le_of_ble_eq_true rfl) rfl ?_
  refine g_iload_n (i := 3) rfl rfl ?_
  refine g_iconst (n := 4) rfl ?_
  refine g_icmp_ne 111 rfl rfl (fun hc => absurd hc (by decide)) (fun _ => ?_)
  refine g_iload (i := 5) rfl rfl ?_
  refine g_ineg rfl ?_
  refine g_goto 126 rfl rfl ?_
  refine g_ireturn (ty := .int) rfl rfl rfl ?_
  exact ⟨rfl, tG_tr e1 (tG_tr e2 (e3)), by simpa only [List.append_assoc, List.cons_append, List.nil_append] using t3⟩
theorem gp_5 {d : Nat} {S : Nat} {s : Int32} {co : Nat → Int32} (hs : s.toInt = S) (hS : S < 8) (c0 : 0 ≤ (co S).toInt) (hk : (co S).toInt / 1000 = (5 : Nat)) : bGx (d + 2) 249 5 S s co (pv 5 s (cD (co S) (Int8.ofInt 100).toInt32)) (pL 5) := by
  intro h l x t h70 hl
  obtain ⟨fs0, tr0, hf0, f14_0, f17_0, f35_0, f36_0, -⟩ := id t
  have sn : s.toNatClampNeg = S := i_nat hs
  unfold pL at hl
  unfold pL
  refine sDo_of (d := d + 1) (nL := 6) (L := [some (.ref 60), some (.int s), some (.int x), none, none, none]) rfl rfl ?_
  refine g_aload_n (i := 0) rfl rfl ?_
  refine g_getfield (v := .ref 70) rfl hf0 (by decide) f17_0 ?_
  refine g_iload_n (i := 1) rfl rfl ?_
  refine g_ialv (n := 8) (f := co) (v := co S) rfl h70 (i_in (by omega) (by omega)) (congrArg co sn) ?_
  refine g_sipush (n := 1000) rfl ?_
  refine g_idiv rfl (by decide) ?_
  rw [k7_of c0 hk (by decide)]
  refine g_istore_n (i := 3) (L1 := [some (.ref 60), some (.int s), some (.int x), some (.int (Int32.ofNat 5)), none, none]) rfl (Nat.le_of_ble_eq_true rfl) rfl ?_
  refine g_iload_n (i := 3) rfl rfl ?_
  refine g_iconst (n := 1) rfl ?_
  refine g_icmp_eq 26 rfl rfl (fun hc => absurd hc (by decide)) (fun _ => ?_)
  refine g_iload_n (i := 3) rfl rfl ?_
  refine g_iconst (n := 4) rfl ?_
  refine g_icmp_eq 26 rfl rfl (fun hc => absurd hc (by decide)) (fun _ => ?_)
  refine g_iload_n (i := 3) rfl rfl ?_
  refine g_iconst (n := 5) rfl ?_
  refine g_icmp_ne 30 rfl rfl (fun hc => absurd hc (by decide)) (fun _ => ?_)
  refine g_iconst (n := 1) rfl ?_
  refine g_goto 31 rfl rfl ?_
  refine g_istore (i := 4) (L1 := [some (.ref 60), some (.int s), some (.int x), some (.int (Int32.ofNat 5)), some (.int (Int32.ofInt 1)), none]) rfl (Nat.le_of_ble_eq_true rfl) rfl ?_
  refine g_iload_n (i := 3) rfl rfl ?_
  refine g_iconst (n := 4) rfl ?_
  refine g_icmp_ne 44 rfl rfl (fun _ => ?_) (fun hc => absurd hc (by decide))
  refine g_iload (i := 4) rfl rfl ?_
  refine g_if_eq 55 rfl rfl (fun hc => absurd hc (by decide)) (fun _ => ?_)
  refine g_aload_n (i := 0) rfl rfl ?_
  refine g_bipush (n := 20) rfl ?_
  refine g_virt1 rfl (by decide) rfl hf0 rfl (Nat.le_of_ble_eq_true rfl) (sDo_up (d := 1) (by omega) (s_body (d := 0) t (by simp only [List.length_append, List.length_cons, List.length_nil] at hl ⊢; omega))) (fun r h1 hq => ?_)
  obtain ⟨rfl, e1, t1⟩ := hq
  obtain ⟨fs1, tr1, hf1, f14_1, f17_1, f35_1, f36_1, -⟩ := id t1
  have h70_1 := (tG_at e1 (p := 70) (by decide) (by decide)).trans h70
  refine g_iload_n (i := 3) rfl rfl ?_
  refine g_bipush (n := 6) rfl ?_
  refine g_icmp_ne 67 rfl rfl (fun _ => ?_) (fun hc => absurd hc (by decide))
  refine g_aload_n (i := 0) rfl rfl ?_
  refine g_bipush (n := 10) rfl ?_
  refine g_virt1 rfl (by decide) rfl hf1 rfl (Nat.le_of_ble_eq_true rfl) (sDo_up (d := 1) (by omega) (s_body (d := 0) t1 (by simp only [List.length_append, List.length_cons, List.length_nil] at hl ⊢; omega))) (fun r h2 hq => ?_)
  obtain ⟨rfl, e2, t2⟩ := hq
  obtain ⟨fs2, tr2, hf2, f14_2, f17_2, f35_2, f36_2, -⟩ := id t2
  have h70_2 := (tG_at e2 (p := 70) (by decide) (by decide)).trans h70_1
  refine g_iload_n (i := 2) rfl rfl ?_
  refine g_iload_n (i := 1) rfl rfl ?_
  refine g_iadd rfl ?_
  refine g_istore (i := 5) (L1 := [some (.ref 60), some (.int s), some (.int x), some (.int (Int32.ofNat 5)), some (.int (Int32.ofInt 1)), some (.int (x + s))]) rfl (Nat.le_of_ble_eq_true rfl) rfl ?_
  refine g_iload (i := 4) rfl rfl ?_
  refine g_if_eq 100 rfl rfl (fun hc => absurd hc (by decide)) (fun _ => ?_)
  refine g_iload (i := 5) rfl rfl ?_
  refine g_aload_n (i := 0) rfl rfl ?_
  refine g_getfield (v := .ref 70) rfl hf2 (by decide) f17_2 ?_
  refine g_iload_n (i := 1) rfl rfl ?_
  refine g_ialv (n := 8) (f := co) (v := co S) rfl h70_2 (i_in (by omega) (by omega)) (congrArg co sn) ?_
  refine g_bipush (n := 100) rfl ?_
  refine g_idiv rfl (by decide) ?_
  refine g_bipush (n := 10) rfl ?_
  refine g_irem rfl (by decide) ?_
  refine g_iadd rfl ?_
  refine g_istore (i := 5) (L1 := [some (.ref 60), some (.int s), some (.int x), some (.int (Int32.ofNat 5)), some (.int (Int32.ofInt 1)), some (.int ((x + s) + (((co S) / (Int8.ofInt 100).toInt32) - ((co S) / (Int8.ofInt 100).toInt32) / (Int8.ofInt 10).toInt32 * (Int8.ofInt 10).toInt32)))]) rfl (Nat.le_of_ble_eq_true rfl) rfl ?_
  refine g_iload_n (i := 3) rfl rfl ?_
  refine g_iconst (n := 4) rfl ?_
  refine g_icmp_ne 111 rfl rfl (fun _ => ?_) (fun hc => absurd hc (by decide))
  refine g_iload_n (i := 3) rfl rfl ?_
  refine g_bipush (n := 6) rfl ?_
  refine g_icmp_ne 124 rfl rfl (fun _ => ?_) (fun hc => absurd hc (by decide))
  refine g_iload (i := 5) rfl rfl ?_
  refine g_ireturn (ty := .int) rfl rfl rfl ?_
  exact ⟨rfl, tG_tr e1 (e2), by simpa only [List.append_assoc, List.cons_append, List.nil_append] using t2⟩
theorem gp_6 {d : Nat} {S : Nat} {s : Int32} {co : Nat → Int32} (hs : s.toInt = S) (hS : S < 8) (c0 : 0 ≤ (co S).toInt) (hk : (co S).toInt / 1000 = (6 : Nat)) : bGx (d + 2) 249 6 S s co (pv 6 s (cD (co S) (Int8.ofInt 100).toInt32)) (pL 6) := by
  intro h l x t h70 hl
  obtain ⟨fs0, tr0, hf0, f14_0, f17_0, f35_0, f36_0, -⟩ := id t
  have sn : s.toNatClampNeg = S := i_nat hs
  unfold pL at hl
  unfold pL
  refine sDo_of (d := d + 1) (nL := 6) (L := [some (.ref 60), some (.int s), some (.int x), none, none, none]) rfl rfl ?_
  refine g_aload_n (i := 0) rfl rfl ?_
  refine g_getfield (v := .ref 70) rfl hf0 (by decide) f17_0 ?_
  refine g_iload_n (i := 1) rfl rfl ?_
  refine g_ialv (n := 8) (f := co) (v := co S) rfl h70 (i_in (by omega) (by omega)) (congrArg co sn) ?_
  refine g_sipush (n := 1000) rfl ?_
  refine g_idiv rfl (by decide) ?_
  rw [k7_of c0 hk (by decide)]
  refine g_istore_n (i := 3) (L1 := [some (.ref 60), some (.int s), some (.int x), some (.int (Int32.ofNat 6)), none, none]) rfl (Nat.le_of_ble_eq_true rfl) rfl ?_
  refine g_iload_n (i := 3) rfl rfl ?_
  refine g_iconst (n := 1) rfl ?_
  refine g_icmp_eq 26 rfl rfl (fun hc => absurd hc (by decide)) (fun _ => ?_)
  refine g_iload_n (i := 3) rfl rfl ?_
  refine g_iconst (n := 4) rfl ?_
  refine g_icmp_eq 26 rfl rfl (fun hc => absurd hc (by decide)) (fun _ => ?_)
  refine g_iload_n (i := 3) rfl rfl ?_
  refine g_iconst (n := 5) rfl ?_
  refine g_icmp_ne 30 rfl rfl (fun _ => ?_) (fun hc => absurd hc (by decide))
  refine g_iconst (n := 0) rfl ?_
  refine g_istore (i := 4) (L1 := [some (.ref 60), some (.int s), some (.int x), some (.int (Int32.ofNat 6)), some (.int (Int32.ofInt 0)), none]) rfl (Nat.le_of_ble_eq_true rfl) rfl ?_
  refine g_iload_n (i := 3) rfl rfl ?_
  refine g_iconst (n := 4) rfl ?_
  refine g_icmp_ne 44 rfl rfl (fun _ => ?_) (fun hc => absurd hc (by decide))
  refine g_iload (i := 4) rfl rfl ?_
  refine g_if_eq 55 rfl rfl (fun _ => ?_) (fun hc => absurd hc (by decide))
  refine g_iload_n (i := 3) rfl rfl ?_
  refine g_bipush (n := 6) rfl ?_
  refine g_icmp_ne 67 rfl rfl (fun hc => absurd hc (by decide)) (fun _ => ?_)
  refine g_aload_n (i := 0) rfl rfl ?_
  refine g_bipush (n := 70) rfl ?_
  refine g_virt1 rfl (by decide) rfl hf0 rfl (Nat.le_of_ble_eq_true rfl) (sDo_up (d := 1) (by omega) (s_body (d := 0) t (by simp only [List.length_append, List.length_cons, List.length_nil] at hl ⊢; omega))) (fun r h1 hq => ?_)
  obtain ⟨rfl, e1, t1⟩ := hq
  obtain ⟨fs1, tr1, hf1, f14_1, f17_1, f35_1, f36_1, -⟩ := id t1
  have h70_1 := (tG_at e1 (p := 70) (by decide) (by decide)).trans h70
  refine g_aload_n (i := 0) rfl rfl ?_
  refine g_bipush (n := 10) rfl ?_
  refine g_virt1 rfl (by decide) rfl hf1 rfl (Nat.le_of_ble_eq_true rfl) (sDo_up (d := 1) (by omega) (s_body (d := 0) t1 (by simp only [List.length_append, List.length_cons, List.length_nil] at hl ⊢; omega))) (fun r h2 hq => ?_)
  obtain ⟨rfl, e2, t2⟩ := hq
  obtain ⟨fs2, tr2, hf2, f14_2, f17_2, f35_2, f36_2, -⟩ := id t2
  have h70_2 := (tG_at e2 (p := 70) (by decide) (by decide)).trans h70_1
  refine g_iload_n (i := 2) rfl rfl ?_
  refine g_iload_n (i := 1) rfl rfl ?_
  refine g_iadd rfl ?_
  refine g_istore (i := 5) (L1 := [some (.ref 60), some (.int s), some (.int x), some (.int (Int32.ofNat 6)), some (.int (Int32.ofInt 0)), some (.int (x + s))]) rfl (Nat.le_of_ble_eq_true rfl) rfl ?_
  refine g_iload (i := 4) rfl rfl ?_
  refine g_if_eq 100 rfl rfl (fun _ => ?_) (fun hc => absurd hc (by decide))
  refine g_iload_n (i := 3) rfl rfl ?_
  refine g_iconst (n := 4) rfl ?_
  refine g_icmp_ne 111 rfl rfl (fun _ => ?_) (fun hc => absurd hc (by decide))
  refine g_iload_n (i := 3) rfl rfl ?_
  refine g_bipush (n := 6) rfl ?_
  refine g_icmp_ne 124 rfl rfl (fun hc => absurd hc (by decide)) (fun _ => ?_)
  refine g_iload (i := 5) rfl rfl ?_
  refine g_iconst (n := 2) rfl ?_
  refine g_imul rfl ?_
  refine g_goto 126 rfl rfl ?_
  refine g_ireturn (ty := .int) rfl rfl rfl ?_
  exact ⟨rfl, tG_tr e1 (e2), by simpa only [List.append_assoc, List.cons_append, List.nil_append] using t2⟩
theorem gw_0 {d : Nat} {S : Nat} {s : Int32} {co : Nat → Int32} (hs : s.toInt = S) (hS : S < 8) (c0 : 0 ≤ (co S).toInt) (hk : (co S).toInt / 1000 = (0 : Nat)) : bGx (d + 3) 250 0 S s co (wv 0 s (cD (co S) (Int8.ofInt 100).toInt32)) (wL 0) := by
  intro h l x t h70 hl
  obtain ⟨fs0, tr0, hf0, f14_0, f17_0, f35_0, f36_0, -⟩ := id t
  have sn : s.toNatClampNeg = S := i_nat hs
  unfold wL pL at hl
  unfold wL pL
  have hP := gp_0 (d := 0) hs hS c0 hk
  unfold pL at hP
  refine sDo_of (d := d + 2) (nL := 6) (L := [some (.ref 60), some (.int s), some (.int x), none, none, none]) rfl rfl ?_
  refine g_aload_n (i := 0) rfl rfl ?_
  refine g_getfield (v := .ref 70) rfl hf0 (by decide) f17_0 ?_
  refine g_iload_n (i := 1) rfl rfl ?_
  refine g_ialv (n := 8) (f := co) (v := co S) rfl h70 (i_in (by omega) (by omega)) (congrArg co sn) ?_
  refine g_sipush (n := 1000) rfl ?_
  refine g_idiv rfl (by decide) ?_
  rw [k7_of c0 hk (by decide)]
  refine g_istore_n (i := 3) (L1 := [some (.ref 60), some (.int s), some (.int x), some (.int (Int32.ofNat 0)), none, none]) rfl (Nat.le_of_ble_eq_true rfl) rfl ?_
  refine g_iload_n (i := 2) rfl rfl ?_
  refine g_istore (i := 4) (L1 := [some (.ref 60), some (.int s), some (.int x), some (.int (Int32.ofNat 0)), some (.int x), none]) rfl (Nat.le_of_ble_eq_true rfl) rfl ?_
  refine g_iload_n (i := 3) rfl rfl ?_
  refine g_iconst (n := 4) rfl ?_
  refine g_icmp_ne 30 rfl rfl (fun _ => ?_) (fun hc => absurd hc (by decide))
  refine g_iload_n (i := 3) rfl rfl ?_
  refine g_bipush (n := 6) rfl ?_
  refine g_icmp_ne 58 rfl rfl (fun _ => ?_) (fun hc => absurd hc (by decide))
  refine g_iload_n (i := 3) rfl rfl ?_
  refine g_iconst (n := 2) rfl ?_
  refine g_icmp_eq 69 rfl rfl (fun hc => absurd hc (by decide)) (fun _ => ?_)
  refine g_iload_n (i := 3) rfl rfl ?_
  refine g_bipush (n := 6) rfl ?_
  refine g_icmp_ne 75 rfl rfl (fun _ => ?_) (fun hc => absurd hc (by decide))
  refine g_aload_n (i := 0) rfl rfl ?_
  refine g_bipush (n := 11) rfl ?_
  refine g_virt1 rfl (by decide) rfl hf0 rfl (Nat.le_of_ble_eq_true rfl) (sDo_up (d := 1) (by omega) (s_body (d := 0) t (by simp only [List.length_append, List.length_cons, List.length_nil] at hl ⊢; omega))) (fun r h1 hq => ?_)
  obtain ⟨rfl, e1, t1⟩ := hq
  obtain ⟨fs1, tr1, hf1, f14_1, f17_1, f35_1, f36_1, -⟩ := id t1
  have h70_1 := (tG_at e1 (p := 70) (by decide) (by decide)).trans h70
  refine g_aload_n (i := 0) rfl rfl ?_
  refine g_iload_n (i := 1) rfl rfl ?_
  refine g_iload (i := 4) rfl rfl ?_
  refine g_virt2 rfl (by decide) rfl hf1 rfl (Nat.le_of_ble_eq_true rfl) (sDo_up (d := 2) (by omega) (hP _ _ _ t1 h70_1 (by simp only [List.length_append, List.length_cons, List.length_nil] at hl ⊢; omega))) (fun r h2 hq => ?_)
  obtain ⟨rfl, e2, t2⟩ := hq
  obtain ⟨fs2, tr2, hf2, f14_2, f17_2, f35_2, f36_2, -⟩ := id t2
  have h70_2 := (tG_at e2 (p := 70) (by decide) (by decide)).trans h70_1
  refine g_iconst (n := 2) rfl ?_
  refine g_imul rfl ?_
  refine g_istore (i := 5) (L1 := [some (.ref 60), some (.int s), some (.int x), some (.int (Int32.ofNat 0)), some (.int x), some (.int ((pv 0 s (cD (co S) (Int8.ofInt 100).toInt32) (x)) * (Int32.ofInt 2)))]) rfl (Nat.le_of_ble_eq_true rfl) rfl ?_
  refine g_iload_n (i := 3) rfl rfl ?_
  refine g_iconst (n := 2) rfl ?_
  refine g_icmp_eq 103 rfl rfl (fun hc => absurd hc (by decide)) (fun _ => ?_)
  refine g_iload_n (i := 3) rfl rfl ?_
  refine g_bipush (n := 6) rfl ?_
  refine g_icmp_ne 110 rfl rfl (fun _ => ?_) (fun hc => absurd hc (by decide))
  refine g_iload (i := 5) rfl rfl ?_
  refine g_ireturn (ty := .int) rfl rfl rfl ?_
  exact ⟨rfl, tG_tr e1 (e2), by simpa only [List.append_assoc, List.cons_append, List.nil_append] using t2⟩
theorem gw_1 {d : Nat} {S : Nat} {s : Int32} {co : Nat → Int32} (hs : s.toInt = S) (hS : S < 8) (c0 : 0 ≤ (co S).toInt) (hk : (co S).toInt / 1000 = (1 : Nat)) : bGx (d + 3) 250 1 S s co (wv 1 s (cD (co S) (Int8.ofInt 100).toInt32)) (wL 1) := by
  intro h l x t h70 hl
  obtain ⟨fs0, tr0, hf0, f14_0, f17_0, f35_0, f36_0, -⟩ := id t
  have sn : s.toNatClampNeg = S := i_nat hs
  unfold wL pL at hl
  unfold wL pL
  have hP := gp_1 (d := 0) hs hS c0 hk
  unfold pL at hP
  refine sDo_of (d := d + 2) (nL := 6) (L := [some (.ref 60), some (.int s), some (.int x), none, none, none]) rfl rfl ?_
  refine g_aload_n (i := 0) rfl rfl ?_
  refine g_getfield (v := .ref 70) rfl hf0 (by decide) f17_0 ?_
  refine g_iload_n (i := 1) rfl rfl ?_
  refine g_ialv (n := 8) (f := co) (v := co S) rfl h70 (i_in (by omega) (by omega)) (congrArg co sn) ?_
  refine g_sipush (n := 1000) rfl ?_
  refine g_idiv rfl (by decide) ?_
  rw [k7_of c0 hk (by decide)]
  refine g_istore_n (i := 3) (L1 := [some (.ref 60), some (.int s), some (.int x), some (.int (Int32.ofNat 1)), none, none]) rfl (Nat.le_of_ble_eq_true rfl) rfl ?_
  refine g_iload_n (i := 2) rfl rfl ?_
  refine g_istore (i := 4) (L1 := [some (.ref 60), some (.int s), some (.int x), some (.int (Int32.ofNat 1)), some (.int x), none]) rfl (Nat.le_of_ble_eq_true rfl) rfl ?_
  refine g_iload_n (i := 3) rfl rfl ?_
  refine g_iconst (n := 4) rfl ?_
  refine g_icmp_ne 30 rfl rfl (fun _ => ?_) (fun hc => absurd hc (by decide))
  refine g_iload_n (i := 3) rfl rfl ?_
  refine g_bipush (n := 6) rfl ?_
  refine g_icmp_ne 58 rfl rfl (fun _ => ?_) (fun hc => absurd hc (by decide))
  refine g_iload_n (i := 3) rfl rfl ?_
  refine g_iconst (n := 2) rfl ?_
  refine g_icmp_eq 69 rfl rfl (fun hc => absurd hc (by decide)) (fun _ => ?_)
  refine g_iload_n (i := 3) rfl rfl ?_
  refine g_bipush (n := 6) rfl ?_
  refine g_icmp_ne 75 rfl rfl (fun _ => ?_) (fun hc => absurd hc (by decide))
  refine g_aload_n (i := 0) rfl rfl ?_
  refine g_bipush (n := 11) rfl ?_
  refine g_virt1 rfl (by decide) rfl hf0 rfl (Nat.le_of_ble_eq_true rfl) (sDo_up (d := 1) (by omega) (s_body (d := 0) t (by simp only [List.length_append, List.length_cons, List.length_nil] at hl ⊢; omega))) (fun r h1 hq => ?_)
  obtain ⟨rfl, e1, t1⟩ := hq
  obtain ⟨fs1, tr1, hf1, f14_1, f17_1, f35_1, f36_1, -⟩ := id t1
  have h70_1 := (tG_at e1 (p := 70) (by decide) (by decide)).trans h70
  refine g_aload_n (i := 0) rfl rfl ?_
  refine g_iload_n (i := 1) rfl rfl ?_
  refine g_iload (i := 4) rfl rfl ?_
  refine g_virt2 rfl (by decide) rfl hf1 rfl (Nat.le_of_ble_eq_true rfl) (sDo_up (d := 2) (by omega) (hP _ _ _ t1 h70_1 (by simp only [List.length_append, List.length_cons, List.length_nil] at hl ⊢; omega))) (fun r h2 hq => ?_)
  obtain ⟨rfl, e2, t2⟩ := hq
  obtain ⟨fs2, tr2, hf2, f14_2, f17_2, f35_2, f36_2, -⟩ := id t2
  have h70_2 := (tG_at e2 (p := 70) (by decide) (by decide)).trans h70_1
  refine g_iconst (n := 2) rfl ?_
  refine g_imul rfl ?_
  refine g_istore (i := 5) (L1 := [some (.ref 60), some (.int s), some (.int x), some (.int (Int32.ofNat 1)), some (.int x), some (.int ((pv 1 s (cD (co S) (Int8.ofInt 100).toInt32) (x)) * (Int32.ofInt 2)))]) rfl (Nat.le_of_ble_eq_true rfl) rfl ?_
  refine g_iload_n (i := 3) rfl rfl ?_
  refine g_iconst (n := 2) rfl ?_
  refine g_icmp_eq 103 rfl rfl (fun hc => absurd hc (by decide)) (fun _ => ?_)
  refine g_iload_n (i := 3) rfl rfl ?_
  refine g_bipush (n := 6) rfl ?_
  refine g_icmp_ne 110 rfl rfl (fun _ => ?_) (fun hc => absurd hc (by decide))
  refine g_iload (i := 5) rfl rfl ?_
  refine g_ireturn (ty := .int) rfl rfl rfl ?_
  exact ⟨rfl, tG_tr e1 (e2), by simpa only [List.append_assoc, List.cons_append, List.nil_append] using t2⟩
theorem gw_2 {d : Nat} {S : Nat} {s : Int32} {co : Nat → Int32} (hs : s.toInt = S) (hS : S < 8) (c0 : 0 ≤ (co S).toInt) (hk : (co S).toInt / 1000 = (2 : Nat)) : bGx (d + 3) 250 2 S s co (wv 2 s (cD (co S) (Int8.ofInt 100).toInt32)) (wL 2) := by
  intro h l x t h70 hl
  obtain ⟨fs0, tr0, hf0, f14_0, f17_0, f35_0, f36_0, -⟩ := id t
  have sn : s.toNatClampNeg = S := i_nat hs
  unfold wL pL at hl
  unfold wL pL
  have hP := gp_2 (d := 0) hs hS c0 hk
  unfold pL at hP
  refine sDo_of (d := d + 2) (nL := 6) (L := [some (.ref 60), some (.int s), some (.int x), none, none, none]) rfl rfl ?_
  refine g_aload_n (i := 0) rfl rfl ?_
  refine g_getfield (v := .ref 70) rfl hf0 (by decide) f17_0 ?_
  refine g_iload_n (i := 1) rfl rfl ?_
  refine g_ialv (n := 8) (f := co) (v := co S) rfl h70 (i_in (by omega) (by omega)) (congrArg co sn) ?_
  refine g_sipush (n := 1000) rfl ?_
  refine g_idiv rfl (by decide) ?_
  rw [k7_of c0 hk (by decide)]
  refine g_istore_n (i := 3) (L1 := [some (.ref 60), some (.int s), some (.int x), some (.int (Int32.ofNat 2)), none, none]) rfl (Nat.le_of_ble_eq_true rfl) rfl ?_
  refine g_iload_n (i := 2) rfl rfl ?_
  refine g_istore (i := 4) (L1 := [some (.ref 60), some (.int s), some (.int x), some (.int (Int32.ofNat 2)), some (.int x), none]) rfl (Nat.le_of_ble_eq_true rfl) rfl ?_
  refine g_iload_n (i := 3) rfl rfl ?_
  refine g_iconst (n := 4) rfl ?_
  refine g_icmp_ne 30 rfl rfl (fun _ => ?_) (fun hc => absurd hc (by decide))
  refine g_iload_n (i := 3) rfl rfl ?_
  refine g_bipush (n := 6) rfl ?_
  refine g_icmp_ne 58 rfl rfl (fun _ => ?_) (fun hc => absurd hc (by decide))
  refine g_iload_n (i := 3) rfl rfl ?_
  refine g_iconst (n := 2) rfl ?_
  refine g_icmp_eq 69 rfl rfl (fun _ => ?_) (fun hc => absurd hc (by decide))
  refine g_aload_n (i := 0) rfl rfl ?_
  refine g_bipush (n := 30) rfl ?_
  refine g_virt1 rfl (by decide) rfl hf0 rfl (Nat.le_of_ble_eq_true rfl) (sDo_up (d := 1) (by omega) (s_body (d := 0) t (by simp only [List.length_append, List.length_cons, List.length_nil] at hl ⊢; omega))) (fun r h1 hq => ?_)
  obtain ⟨rfl, e1, t1⟩ := hq
  obtain ⟨fs1, tr1, hf1, f14_1, f17_1, f35_1, f36_1, -⟩ := id t1
  have h70_1 := (tG_at e1 (p := 70) (by decide) (by decide)).trans h70
  refine g_aload_n (i := 0) rfl rfl ?_
  refine g_bipush (n := 11) rfl ?_
  refine g_virt1 rfl (by decide) rfl hf1 rfl (Nat.le_of_ble_eq_true rfl) (sDo_up (d := 1) (by omega) (s_body (d := 0) t1 (by simp only [List.length_append, List.length_cons, List.length_nil] at hl ⊢; omega))) (fun r h2 hq => ?_)
  obtain ⟨rfl, e2, t2⟩ := hq
  obtain ⟨fs2, tr2, hf2, f14_2, f17_2, f35_2, f36_2, -⟩ := id t2
  have h70_2 := (tG_at e2 (p := 70) (by decide) (by decide)).trans h70_1
  refine g_aload_n (i := 0) rfl rfl ?_
  refine g_iload_n (i := 1) rfl rfl ?_
  refine g_iload (i := 4) rfl rfl ?_
  refine g_virt2 rfl (by decide) rfl hf2 rfl (Nat.le_of_ble_eq_true rfl) (sDo_up (d := 2) (by omega) (hP _ _ _ t2 h70_2 (by simp only [List.length_append, List.length_cons, List.length_nil] at hl ⊢; omega))) (fun r h3 hq => ?_)
  obtain ⟨rfl, e3, t3⟩ := hq
  obtain ⟨fs3, tr3, hf3, f14_3, f17_3, f35_3, f36_3, -⟩ := id t3
  have h70_3 := (tG_at e3 (p := 70) (by decide) (by decide)).trans h70_2
  refine g_iconst (n := 2) rfl ?_
  refine g_imul rfl ?_
  refine g_istore (i := 5) (L1 := [some (.ref 60), some (.int s), some (.int x), some (.int (Int32.ofNat 2)), some (.int x), some (.int ((pv 2 s (cD (co S) (Int8.ofInt 100).toInt32) (x)) * (Int32.ofInt 2)))]) rfl (Nat.le_of_ble_eq_true rfl) rfl ?_
  refine g_iload_n (i := 3) rfl rfl ?_
  refine g_iconst (n := 2) rfl ?_
  refine g_icmp_eq 103 rfl rfl (fun _ => ?_) (fun hc => absurd hc (by decide))
  refine g_iload (i := 5) rfl rfl ?_
  refine g_iconst (n := 3) rfl ?_
  refine g_imul rfl ?_
  refine g_goto 112 rfl rfl ?_
  refine g_ireturn (ty := .int) rfl rfl rfl ?_
  exact ⟨rfl, tG_tr e1 (tG_tr e2 (e3)), by simpa only [List.append_assoc, List.cons_append, List.nil_append] using t3⟩
theorem gw_3 {d : Nat} {S : Nat} {s : Int32} {co : Nat → Int32} (hs : s.toInt = S) (hS : S < 8) (c0 : 0 ≤ (co S).toInt) (hk : (co S).toInt / 1000 = (3 : Nat)) : bGx (d + 3) 250 3 S s co (wv 3 s (cD (co S) (Int8.ofInt 100).toInt32)) (wL 3) := by
  intro h l x t h70 hl
  obtain ⟨fs0, tr0, hf0, f14_0, f17_0, f35_0, f36_0, -⟩ := id t
  have sn : s.toNatClampNeg = S := i_nat hs
  unfold wL pL at hl
  unfold wL pL
  have hP := gp_3 (d := 0) hs hS c0 hk
  unfold pL at hP
  refine sDo_of (d := d + 2) (nL := 6) (L := [some (.ref 60), some (.int s), some (.int x), none, none, none]) rfl rfl ?_
  refine g_aload_n (i := 0) rfl rfl ?_
  refine g_getfield (v := .ref 70) rfl hf0 (by decide) f17_0 ?_
  refine g_iload_n (i := 1) rfl rfl ?_
  refine g_ialv (n := 8) (f := co) (v := co S) rfl h70 (i_in (by omega) (by omega)) (congrArg co sn) ?_
  refine g_sipush (n := 1000) rfl ?_
  refine g_idiv rfl (by decide) ?_
  rw [k7_of c0 hk (by decide)]
  refine g_istore_n (i := 3) (L1 := [some (.ref 60), some (.int s), some (.int x), some (.int (Int32.ofNat 3)), none, none]) rfl (Nat.le_of_ble_eq_true rfl) rfl ?_
  refine g_iload_n (i := 2) rfl rfl ?_
  refine g_istore (i := 4) (L1 := [some (.ref 60), some (.int s), some (.int x), some (.int (Int32.ofNat 3)), some (.int x), none]) rfl (Nat.le_of_ble_eq_true rfl) rfl ?_
  refine g_iload_n (i := 3) rfl rfl ?_
  refine g_iconst (n := 4) rfl ?_
  refine g_icmp_ne 30 rfl rfl (fun _ => ?_) (fun hc => absurd hc (by decide))
  refine g_iload_n (i := 3) rfl rfl ?_
  refine g_bipush (n := 6) rfl ?_
  refine g_icmp_ne 58 rfl rfl (fun _ => ?_) (fun hc => absurd hc (by decide))
  refine g_iload_n (i := 3) rfl rfl ?_
  refine g_iconst (n := 2) rfl ?_
  refine g_icmp_eq 69 rfl rfl (fun hc => absurd hc (by decide)) (fun _ => ?_)
  refine g_iload_n (i := 3) rfl rfl ?_
  refine g_bipush (n := 6) rfl ?_
  refine g_icmp_ne 75 rfl rfl (fun _ => ?_) (fun hc => absurd hc (by decide))
  refine g_aload_n (i := 0) rfl rfl ?_
  refine g_bipush (n := 11) rfl ?_
  refine g_virt1 rfl (by decide) rfl hf0 rfl (Nat.le_of_ble_eq_true rfl) (sDo_up (d := 1) (by omega) (s_body (d := 0) t (by simp only [List.length_append, List.length_cons, List.length_nil] at hl ⊢; omega))) (fun r h1 hq => ?_)
  obtain ⟨rfl, e1, t1⟩ := hq
  obtain ⟨fs1, tr1, hf1, f14_1, f17_1, f35_1, f36_1, -⟩ := id t1
  have h70_1 := (tG_at e1 (p := 70) (by decide) (by decide)).trans h70
  refine g_aload_n (i := 0) rfl rfl ?_
  refine g_iload_n (i := 1) rfl rfl ?_
  refine g_iload (i := 4) rfl rfl ?_
  refine g_virt2 rfl (by decide) rfl hf1 rfl (Nat.le_of_ble_eq_true rfl) (sDo_up (d := 2) (by omega) (hP _ _ _ t1 h70_1 (by simp only [List.length_append, List.length_cons, List.length_nil] at hl ⊢; omega))) (fun r h2 hq => ?_)
  obtain ⟨rfl, e2, t2⟩ := hq
  obtain ⟨fs2, tr2, hf2, f14_2, f17_2, f35_2, f36_2, -⟩ := id t2
  have h70_2 := (tG_at e2 (p := 70) (by decide) (by decide)).trans h70_1
  refine g_iconst (n := 2) rfl ?_
  refine g_imul rfl ?_
  refine g_istore (i := 5) (L1 := [some (.ref 60), some (.int s), some (.int x), some (.int (Int32.ofNat 3)), some (.int x), some (.int ((pv 3 s (cD (co S) (Int8.ofInt 100).toInt32) (x)) * (Int32.ofInt 2)))]) rfl (Nat.le_of_ble_eq_true rfl) rfl ?_
  refine g_iload_n (i := 3) rfl rfl ?_
  refine g_iconst (n := 2) rfl ?_
  refine g_icmp_eq 103 rfl rfl (fun hc => absurd hc (by decide)) (fun _ => ?_)
  refine g_iload_n (i := 3) rfl rfl ?_
  refine g_bipush (n := 6) rfl ?_
  refine g_icmp_ne 110 rfl rfl (fun _ => ?_) (fun hc => absurd hc (by decide))
  refine g_iload (i := 5) rfl rfl ?_
  refine g_ireturn (ty := .int) rfl rfl rfl ?_
  exact ⟨rfl, tG_tr e1 (e2), by simpa only [List.append_assoc, List.cons_append, List.nil_append] using t2⟩
theorem gw_4 {d : Nat} {S : Nat} {s : Int32} {co : Nat → Int32} (hs : s.toInt = S) (hS : S < 8) (c0 : 0 ≤ (co S).toInt) (hk : (co S).toInt / 1000 = (4 : Nat)) : bGx (d + 3) 250 4 S s co (wv 4 s (cD (co S) (Int8.ofInt 100).toInt32)) (wL 4) := by
  intro h l x t h70 hl
  obtain ⟨fs0, tr0, hf0, f14_0, f17_0, f35_0, f36_0, -⟩ := id t
  have sn : s.toNatClampNeg = S := i_nat hs
  unfold wL pL at hl
  unfold wL pL
  have hP := gp_4 (d := 0) hs hS c0 hk
  unfold pL at hP
  refine sDo_of (d := d + 2) (nL := 6) (L := [some (.ref 60), some (.int s), some (.int x), none, none, none]) rfl rfl ?_
  refine g_aload_n (i := 0) rfl rfl ?_
  refine g_getfield (v := .ref 70) rfl hf0 (by decide) f17_0 ?_
  refine g_iload_n (i := 1) rfl rfl ?_
  refine g_ialv (n := 8) (f := co) (v := co S) rfl h70 (i_in (by omega) (by omega)) (congrArg co sn) ?_
  refine g_sipush (n := 1000) rfl ?_
  refine g_idiv rfl (by decide) ?_
  rw [k7_of c0 hk (by decide)]
  refine g_istore_n (i := 3) (L1 := [some (.ref 60), some (.int s), some (.int x), some (.int (Int32.ofNat 4)), none, none]) rfl (Nat.le_of_ble_eq_true rfl) rfl ?_
  refine g_iload_n (i := 2) rfl rfl ?_
  refine g_istore (i := 4) (L1 := [some (.ref 60), some (.int s), some (.int x), some (.int (Int32.ofNat 4)), some (.int x), none]) rfl (Nat.le_of_ble_eq_true rfl) rfl ?_
  refine g_iload_n (i := 3) rfl rfl ?_
  refine g_iconst (n := 4) rfl ?_
  refine g_icmp_ne 30 rfl rfl (fun hc => absurd hc (by decide)) (fun _ => ?_)
  refine g_aload_n (i := 0) rfl rfl ?_
  refine g_bipush (n := 50) rfl ?_
  refine g_virt1 rfl (by decide) rfl hf0 rfl (Nat.le_of_ble_eq_true rfl) (sDo_up (d := 1) (by omega) (s_body (d := 0) t (by simp only [List.length_append, List.length_cons, List.length_nil] at hl ⊢; omega))) (fun r h1 hq => ?_)
  obtain ⟨rfl, e1, t1⟩ := hq
  obtain ⟨fs1, tr1, hf1, f14_1, f17_1, f35_1, f36_1, -⟩ := id t1
  have h70_1 := (tG_at e1 (p := 70) (by decide) (by decide)).trans h70
  refine g_iload_n (i := 2) rfl rfl ?_
  refine g_iconst (n := 1) rfl ?_
  refine g_iadd rfl ?_
  refine g_istore (i := 4) (L1 := [some (.ref 60), some (.int s), some (.int x), some (.int (Int32.ofNat 4)), some (.int (x + (Int32.ofInt 1))), none]) rfl (Nat.le_of_ble_eq_true rfl) rfl ?_
  refine g_iload_n (i := 3) rfl rfl ?_
  refine g_bipush (n := 6) rfl ?_
  refine g_icmp_ne 58 rfl rfl (fun _ => ?_) (fun hc => absurd hc (by decide))
  refine g_iload_n (i := 3) rfl rfl ?_
  refine g_iconst (n := 2) rfl ?_
  refine g_icmp_eq 69 rfl rfl (fun hc => absurd hc (by decide)) (fun _ => ?_)
  refine g_iload_n (i := 3) rfl rfl ?_
  refine g_bipush (n := 6) rfl ?_
  refine g_icmp_ne 75 rfl rfl (fun _ => ?_) (fun hc => absurd hc (by decide))
  refine g_aload_n (i := 0) rfl rfl ?_
  refine g_bipush (n := 11) rfl ?_
  refine g_virt1 rfl (by decide) rfl hf1 rfl (Nat.le_of_ble_eq_true rfl) (sDo_up (d := 1) (by omega) (s_body (d := 0) t1 (by simp only [List.length_append, List.length_cons, List.length_nil] at hl ⊢; omega))) (fun r h2 hq => ?_)
  obtain ⟨rfl, e2, t2⟩ := hq
  obtain ⟨fs2, tr2, hf2, f14_2, f17_2, f35_2, f36_2, -⟩ := id t2
  have h70_2 := (tG_at e2 (p := 70) (by decide) (by decide)).trans h70_1
  refine g_aload_n (i := 0) rfl rfl ?_
  refine g_iload_n (i := 1) rfl rfl ?_
  refine g_iload (i := 4) rfl rfl ?_
  refine g_virt2 rfl (by decide) rfl hf2 rfl (Nat.le_of_ble_eq_true rfl) (sDo_up (d := 2) (by omega) (hP _ _ _ t2 h70_2 (by simp only [List.length_append, List.length_cons, List.length_nil] at hl ⊢; omega))) (fun r h3 hq => ?_)
  obtain ⟨rfl, e3, t3⟩ := hq
  obtain ⟨fs3, tr3, hf3, f14_3, f17_3, f35_3, f36_3, -⟩ := id t3
  have h70_3 := (tG_at e3 (p := 70) (by decide) (by decide)).trans h70_2
  refine g_iconst (n := 2) rfl ?_
  refine g_imul rfl ?_
  refine g_istore (i := 5) (L1 := [some (.ref 60), some (.int s), some (.int x), some (.int (Int32.ofNat 4)), some (.int (x + (Int32.ofInt 1))), some (.int ((pv 4 s (cD (co S) (Int8.ofInt 100).toInt32) ((x + (Int32.ofInt 1)))) * (Int32.ofInt 2)))]) rfl (Nat.le_of_ble_eq_true rfl) rfl ?_
  refine g_iload_n (i := 3) rfl rfl ?_
  refine g_iconst (n := 2) rfl ?_
  refine g_icmp_eq 103 rfl rfl (fun hc => absurd hc (by decide)) (fun _ => ?_)
  refine g_iload_n (i := 3) rfl rfl ?_
  refine g_bipush (n := 6) rfl ?_
  refine g_icmp_ne 110 rfl rfl (fun _ => ?_) (fun hc => absurd hc (by decide))
  refine g_iload (i := 5) rfl rfl ?_
  refine g_ireturn (ty := .int) rfl rfl rfl ?_
  exact ⟨rfl, tG_tr e1 (tG_tr e2 (e3)), by simpa only [List.append_assoc, List.cons_append, List.nil_append] using t3⟩
theorem gw_5 {d : Nat} {S : Nat} {s : Int32} {co : Nat → Int32} (hs : s.toInt = S) (hS : S < 8) (c0 : 0 ≤ (co S).toInt) (hk : (co S).toInt / 1000 = (5 : Nat)) : bGx (d + 3) 250 5 S s co (wv 5 s (cD (co S) (Int8.ofInt 100).toInt32)) (wL 5) := by
  intro h l x t h70 hl
  obtain ⟨fs0, tr0, hf0, f14_0, f17_0, f35_0, f36_0, -⟩ := id t
  have sn : s.toNatClampNeg = S := i_nat hs
  unfold wL pL at hl
  unfold wL pL
  have hP := gp_5 (d := 0) hs hS c0 hk
  unfold pL at hP
  refine sDo_of (d := d + 2) (nL := 6) (L := [some (.ref 60), some (.int s), some (.int x), none, none, none]) rfl rfl ?_
  refine g_aload_n (i := 0) rfl rfl ?_
  refine g_getfield (v := .ref 70) rfl hf0 (by decide) f17_0 ?_
  refine g_iload_n (i := 1) rfl rfl ?_
  refine g_ialv (n := 8) (f := co) (v := co S) rfl h70 (i_in (by omega) (by omega)) (congrArg co sn) ?_
  refine g_sipush (n := 1000) rfl ?_
  refine g_idiv rfl (by decide) ?_
  rw [k7_of c0 hk (by decide)]
  refine g_istore_n (i := 3) (L1 := [some (.ref 60), some (.int s), some (.int x), some (.int (Int32.ofNat 5)), none, none]) rfl (Nat.le_of_ble_eq_true rfl) rfl ?_
  refine g_iload_n (i := 2) rfl rfl ?_
  refine g_istore (i := 4) (L1 := [some (.ref 60), some (.int s), some (.int x), some (.int (Int32.ofNat 5)), some (.int x), none]) rfl (Nat.le_of_ble_eq_true rfl) rfl ?_
  refine g_iload_n (i := 3) rfl rfl ?_
  refine g_iconst (n := 4) rfl ?_
  refine g_icmp_ne 30 rfl rfl (fun _ => ?_) (fun hc => absurd hc (by decide))
  refine g_iload_n (i := 3) rfl rfl ?_
  refine g_bipush (n := 6) rfl ?_
  refine g_icmp_ne 58 rfl rfl (fun _ => ?_) (fun hc => absurd hc (by decide))
  refine g_iload_n (i := 3) rfl rfl ?_
  refine g_iconst (n := 2) rfl ?_
  refine g_icmp_eq 69 rfl rfl (fun hc => absurd hc (by decide)) (fun _ => ?_)
  refine g_iload_n (i := 3) rfl rfl ?_
  refine g_bipush (n := 6) rfl ?_
  refine g_icmp_ne 75 rfl rfl (fun _ => ?_) (fun hc => absurd hc (by decide))
  refine g_aload_n (i := 0) rfl rfl ?_
  refine g_bipush (n := 11) rfl ?_
  refine g_virt1 rfl (by decide) rfl hf0 rfl (Nat.le_of_ble_eq_true rfl) (sDo_up (d := 1) (by omega) (s_body (d := 0) t (by simp only [List.length_append, List.length_cons, List.length_nil] at hl ⊢; omega))) (fun r h1 hq => ?_)
  obtain ⟨rfl, e1, t1⟩ := hq
  obtain ⟨fs1, tr1, hf1, f14_1, f17_1, f35_1, f36_1, -⟩ := id t1
  have h70_1 := (tG_at e1 (p := 70) (by decide) (by decide)).trans h70
  refine g_aload_n (i := 0) rfl rfl ?_
  refine g_iload_n (i := 1) rfl rfl ?_
  refine g_iload (i := 4) rfl rfl ?_
  refine g_virt2 rfl (by decide) rfl hf1 rfl (Nat.le_of_ble_eq_true rfl) (sDo_up (d := 2) (by omega) (hP _ _ _ t1 h70_1 (by simp only [List.length_append, List.length_cons, List.length_nil] at hl ⊢; omega))) (fun r h2 hq => ?_)
  obtain ⟨rfl, e2, t2⟩ := hq
  obtain ⟨fs2, tr2, hf2, f14_2, f17_2, f35_2, f36_2, -⟩ := id t2
  have h70_2 := (tG_at e2 (p := 70) (by decide) (by decide)).trans h70_1
  refine g_iconst (n := 2) rfl ?_
  refine g_imul rfl ?_
  refine g_istore (i := 5) (L1 := [some (.ref 60), some (.int s), some (.int x), some (.int (Int32.ofNat 5)), some (.int x), some (.int ((pv 5 s (cD (co S) (Int8.ofInt 100).toInt32) (x)) * (Int32.ofInt 2)))]) rfl (Nat.le_of_ble_eq_true rfl) rfl ?_
  refine g_iload_n (i := 3) rfl rfl ?_
  refine g_iconst (n := 2) rfl ?_
  refine g_icmp_eq 103 rfl rfl (fun hc => absurd hc (by decide)) (fun _ => ?_)
  refine g_iload_n (i := 3) rfl rfl ?_
  refine g_bipush (n := 6) rfl ?_
  refine g_icmp_ne 110 rfl rfl (fun _ => ?_) (fun hc => absurd hc (by decide))
  refine g_iload (i := 5) rfl rfl ?_
  refine g_ireturn (ty := .int) rfl rfl rfl ?_
  exact ⟨rfl, tG_tr e1 (e2), by simpa only [List.append_assoc, List.cons_append, List.nil_append] using t2⟩
theorem gw_6 {d : Nat} {S : Nat} {s : Int32} {co : Nat → Int32} (hs : s.toInt = S) (hS : S < 8) (c0 : 0 ≤ (co S).toInt) (hk : (co S).toInt / 1000 = (6 : Nat)) : bGx (d + 3) 250 6 S s co (wv 6 s (cD (co S) (Int8.ofInt 100).toInt32)) (wL 6) := by
  intro h l x t h70 hl
  obtain ⟨fs0, tr0, hf0, f14_0, f17_0, f35_0, f36_0, -⟩ := id t
  have sn : s.toNatClampNeg = S := i_nat hs
  unfold wL pL at hl
  unfold wL pL
  have hP := gp_6 (d := 0) hs hS c0 hk
  unfold pL at hP
  refine sDo_of (d := d + 2) (nL := 6) (L := [some (.ref 60), some (.int s), some (.int x), none, none, none]) rfl rfl ?_
  refine g_aload_n (i := 0) rfl rfl ?_
  refine g_getfield (v := .ref 70) rfl hf0 (by decide) f17_0 ?_
  refine g_iload_n (i := 1) rfl rfl ?_
  refine g_ialv (n := 8) (f := co) (v := co S) rfl h70 (i_in (by omega) (by omega)) (congrArg co sn) ?_
  refine g_sipush (n := 1000) rfl ?_
  refine g_idiv rfl (by decide) ?_
  rw [k7_of c0 hk (by decide)]
  refine g_istore_n (i := 3) (L1 := [some (.ref 60), some (.int s), some (.int x), some (.int (Int32.ofNat 6)), none, none]) rfl (Nat.le_of_ble_eq_true rfl) rfl ?_
  refine g_iload_n (i := 2) rfl rfl ?_
  refine g_istore (i := 4) (L1 := [some (.ref 60), some (.int s), some (.int x), some (.int (Int32.ofNat 6)), some (.int x), none]) rfl (Nat.le_of_ble_eq_true rfl) rfl ?_
  refine g_iload_n (i := 3) rfl rfl ?_
  refine g_iconst (n := 4) rfl ?_
  refine g_icmp_ne 30 rfl rfl (fun _ => ?_) (fun hc => absurd hc (by decide))
  refine g_iload_n (i := 3) rfl rfl ?_
  refine g_bipush (n := 6) rfl ?_
  refine g_icmp_ne 58 rfl rfl (fun hc => absurd hc (by decide)) (fun _ => ?_)
  refine g_aload_n (i := 0) rfl rfl ?_
  refine g_bipush (n := 71) rfl ?_
  refine g_virt1 rfl (by decide) rfl hf0 rfl (Nat.le_of_ble_eq_true rfl) (sDo_up (d := 1) (by omega) (s_body (d := 0) t (by simp only [List.length_append, List.length_cons, List.length_nil] at hl ⊢; omega))) (fun r h1 hq => ?_)
  obtain ⟨rfl, e1, t1⟩ := hq
  obtain ⟨fs1, tr1, hf1, f14_1, f17_1, f35_1, f36_1, -⟩ := id t1
  have h70_1 := (tG_at e1 (p := 70) (by decide) (by decide)).trans h70
  refine g_iload_n (i := 2) rfl rfl ?_
  refine g_aload_n (i := 0) rfl rfl ?_
  refine g_getfield (v := .ref 70) rfl hf1 (by decide) f17_1 ?_
  refine g_iload_n (i := 1) rfl rfl ?_
  refine g_ialv (n := 8) (f := co) (v := co S) rfl h70_1 (i_in (by omega) (by omega)) (congrArg co sn) ?_
  refine g_bipush (n := 100) rfl ?_
  refine g_idiv rfl (by decide) ?_
  refine g_bipush (n := 10) rfl ?_
  refine g_irem rfl (by decide) ?_
  refine g_isub rfl ?_
  refine g_istore (i := 4) (L1 := [some (.ref 60), some (.int s), some (.int x), some (.int (Int32.ofNat 6)), some (.int (x - (((co S) / (Int8.ofInt 100).toInt32) - ((co S) / (Int8.ofInt 100).toInt32) / (Int8.ofInt 10).toInt32 * (Int8.ofInt 10).toInt32))), none]) rfl (Nat.le_of_ble_eq_true rfl) rfl ?_
  refine g_iload_n (i := 3) rfl rfl ?_
  refine g_iconst (n := 2) rfl ?_
  refine g_icmp_eq 69 rfl rfl (fun hc => absurd hc (by decide)) (fun _ => ?_)
  refine g_iload_n (i := 3) rfl rfl ?_
  refine g_bipush (n := 6) rfl ?_
  refine g_icmp_ne 75 rfl rfl (fun hc => absurd hc (by decide)) (fun _ => ?_)
  refine g_aload_n (i := 0) rfl rfl ?_
  refine g_bipush (n := 30) rfl ?_
  refine g_virt1 rfl (by decide) rfl hf1 rfl (Nat.le_of_ble_eq_true rfl) (sDo_up (d := 1) (by omega) (s_body (d := 0) t1 (by simp only [List.length_append, List.length_cons, List.length_nil] at hl ⊢; omega))) (fun r h2 hq => ?_)
  obtain ⟨rfl, e2, t2⟩ := hq
  obtain ⟨fs2, tr2, hf2, f14_2, f17_2, f35_2, f36_2, -⟩ := id t2
  have h70_2 := (tG_at e2 (p := 70) (by decide) (by decide)).trans h70_1
  refine g_aload_n (i := 0) rfl rfl ?_
  refine g_bipush (n := 11) rfl ?_
  refine g_virt1 rfl (by decide) rfl hf2 rfl (Nat.le_of_ble_eq_true rfl) (sDo_up (d := 1) (by omega) (s_body (d := 0) t2 (by simp only [List.length_append, List.length_cons, List.length_nil] at hl ⊢; omega))) (fun r h3 hq => ?_)
  obtain ⟨rfl, e3, t3⟩ := hq
  obtain ⟨fs3, tr3, hf3, f14_3, f17_3, f35_3, f36_3, -⟩ := id t3
  have h70_3 := (tG_at e3 (p := 70) (by decide) (by decide)).trans h70_2
  refine g_aload_n (i := 0) rfl rfl ?_
  refine g_iload_n (i := 1) rfl rfl ?_
  refine g_iload (i := 4) rfl rfl ?_
  refine g_virt2 rfl (by decide) rfl hf3 rfl (Nat.le_of_ble_eq_true rfl) (sDo_up (d := 2) (by omega) (hP _ _ _ t3 h70_3 (by simp only [List.length_append, List.length_cons, List.length_nil] at hl ⊢; omega))) (fun r h4 hq => ?_)
  obtain ⟨rfl, e4, t4⟩ := hq
  obtain ⟨fs4, tr4, hf4, f14_4, f17_4, f35_4, f36_4, -⟩ := id t4
  have h70_4 := (tG_at e4 (p := 70) (by decide) (by decide)).trans h70_3
  refine g_iconst (n := 2) rfl ?_
  refine g_imul rfl ?_
  refine g_istore (i := 5) (L1 := [some (.ref 60), some (.int s), some (.int x), some (.int (Int32.ofNat 6)), some (.int (x - (((co S) / (Int8.ofInt 100).toInt32) - ((co S) / (Int8.ofInt 100).toInt32) / (Int8.ofInt 10).toInt32 * (Int8.ofInt 10).toInt32))), some (.int ((pv 6 s (cD (co S) (Int8.ofInt 100).toInt32) ((x - (((co S) / (Int8.ofInt 100).toInt32) - ((co S) / (Int8.ofInt 100).toInt32) / (Int8.ofInt 10).toInt32 * (Int8.ofInt 10).toInt32)))) * (Int32.ofInt 2)))]) rfl (Nat.le_of_ble_eq_true rfl) rfl ?_
  refine g_iload_n (i := 3) rfl rfl ?_
  refine g_iconst (n := 2) rfl ?_
  refine g_icmp_eq 103 rfl rfl (fun hc => absurd hc (by decide)) (fun _ => ?_)
  refine g_iload_n (i := 3) rfl rfl ?_
  refine g_bipush (n := 6) rfl ?_
  refine g_icmp_ne 110 rfl rfl (fun hc => absurd hc (by decide)) (fun _ => ?_)
  refine g_iload (i := 5) rfl rfl ?_
  refine g_iconst (n := 3) rfl ?_
  refine g_imul rfl ?_
  refine g_goto 112 rfl rfl ?_
  refine g_ireturn (ty := .int) rfl rfl rfl ?_
  exact ⟨rfl, tG_tr e1 (tG_tr e2 (tG_tr e3 (e4))), by simpa only [List.append_assoc, List.cons_append, List.nil_append] using t4⟩
theorem gh_0 {d : Nat} {S : Nat} {s : Int32} {co : Nat → Int32} (hs : s.toInt = S) (hS : S < 8) (c0 : 0 ≤ (co S).toInt) (hk : (co S).toInt / 1000 = (0 : Nat)) : bGx (d + 4) 251 0 S s co (hv 0 s (cD (co S) (Int8.ofInt 100).toInt32)) (hL 0) := by
  intro h l x t h70 hl
  obtain ⟨fs0, tr0, hf0, f14_0, f17_0, f35_0, f36_0, -⟩ := id t
  have sn : s.toNatClampNeg = S := i_nat hs
  unfold hL wL pL at hl
  unfold hL wL pL
  have hP := gp_0 (d := 0) hs hS c0 hk
  unfold pL at hP
  have hW := gw_0 (d := 0) hs hS c0 hk
  unfold wL pL at hW
  refine sDo_of (d := d + 3) (nL := 5) (L := [some (.ref 60), some (.int s), some (.int x), none, none]) rfl rfl ?_
  refine g_aload_n (i := 0) rfl rfl ?_
  refine g_getfield (v := .ref 70) rfl hf0 (by decide) f17_0 ?_
  refine g_iload_n (i := 1) rfl rfl ?_
  refine g_ialv (n := 8) (f := co) (v := co S) rfl h70 (i_in (by omega) (by omega)) (congrArg co sn) ?_
  refine g_sipush (n := 1000) rfl ?_
  refine g_idiv rfl (by decide) ?_
  rw [k7_of c0 hk (by decide)]
  refine g_istore_n (i := 3) (L1 := [some (.ref 60), some (.int s), some (.int x), some (.int (Int32.ofNat 0)), none]) rfl (Nat.le_of_ble_eq_true rfl) rfl ?_
  refine g_iload_n (i := 3) rfl rfl ?_
  refine g_iconst (n := 3) rfl ?_
  refine g_icmp_ne 22 rfl rfl (fun _ => ?_) (fun hc => absurd hc (by decide))
  refine g_iload_n (i := 3) rfl rfl ?_
  refine g_iconst (n := 5) rfl ?_
  refine g_icmp_ne 33 rfl rfl (fun _ => ?_) (fun hc => absurd hc (by decide))
  refine g_aload_n (i := 0) rfl rfl ?_
  refine g_bipush (n := 12) rfl ?_
  refine g_virt1 rfl (by decide) rfl hf0 rfl (Nat.le_of_ble_eq_true rfl) (sDo_up (d := 1) (by omega) (s_body (d := 0) t (by simp only [List.length_append, List.length_cons, List.length_nil] at hl ⊢; omega))) (fun r h1 hq => ?_)
  obtain ⟨rfl, e1, t1⟩ := hq
  obtain ⟨fs1, tr1, hf1, f14_1, f17_1, f35_1, f36_1, -⟩ := id t1
  have h70_1 := (tG_at e1 (p := 70) (by decide) (by decide)).trans h70
  refine g_aload_n (i := 0) rfl rfl ?_
  refine g_iload_n (i := 1) rfl rfl ?_
  refine g_iload_n (i := 2) rfl rfl ?_
  refine g_virt2 rfl (by decide) rfl hf1 rfl (Nat.le_of_ble_eq_true rfl) (sDo_up (d := 3) (by omega) (hW _ _ _ t1 h70_1 (by simp only [List.length_append, List.length_cons, List.length_nil] at hl ⊢; omega))) (fun r h2 hq => ?_)
  obtain ⟨rfl, e2, t2⟩ := hq
  obtain ⟨fs2, tr2, hf2, f14_2, f17_2, f35_2, f36_2, -⟩ := id t2
  have h70_2 := (tG_at e2 (p := 70) (by decide) (by decide)).trans h70_1
  refine g_istore (i := 4) (L1 := [some (.ref 60), some (.int s), some (.int x), some (.int (Int32.ofNat 0)), some (.int (wv 0 s (cD (co S) (Int8.ofInt 100).toInt32) x))]) rfl (Nat.le_of_ble_eq_true rfl) rfl ?_
  refine g_iload (i := 4) rfl rfl ?_
  refine g_aload_n (i := 0) rfl rfl ?_
  refine g_iload_n (i := 1) rfl rfl ?_
  refine g_iload_n (i := 2) rfl rfl ?_
  refine g_aload_n (i := 0) rfl rfl ?_
  refine g_getfield (v := .ref 70) rfl hf2 (by decide) f17_2 ?_
  refine g_iload_n (i := 1) rfl rfl ?_
  refine g_ialv (n := 8) (f := co) (v := co S) rfl h70_2 (i_in (by omega) (by omega)) (congrArg co sn) ?_
  refine g_bipush (n := 100) rfl ?_
  refine g_idiv rfl (by decide) ?_
  refine g_bipush (n := 10) rfl ?_
  refine g_irem rfl (by decide) ?_
  refine g_isub rfl ?_
  refine g_virt2 rfl (by decide) rfl hf2 rfl (Nat.le_of_ble_eq_true rfl) (sDo_up (d := 2) (by omega) (hP _ _ _ t2 h70_2 (by simp only [List.length_append, List.length_cons, List.length_nil] at hl ⊢; omega))) (fun r h3 hq => ?_)
  obtain ⟨rfl, e3, t3⟩ := hq
  obtain ⟨fs3, tr3, hf3, f14_3, f17_3, f35_3, f36_3, -⟩ := id t3
  have h70_3 := (tG_at e3 (p := 70) (by decide) (by decide)).trans h70_2
  refine g_ixor rfl ?_
  refine g_istore (i := 4) (L1 := [some (.ref 60), some (.int s), some (.int x), some (.int (Int32.ofNat 0)), some (.int ((wv 0 s (cD (co S) (Int8.ofInt 100).toInt32) x) ^^^ (pv 0 s (cD (co S) (Int8.ofInt 100).toInt32) (x - (cD (co S) (Int8.ofInt 100).toInt32)))))]) rfl (Nat.le_of_ble_eq_true rfl) rfl ?_
  refine g_iload_n (i := 3) rfl rfl ?_
  refine g_iconst (n := 3) rfl ?_
  refine g_icmp_ne 83 rfl rfl (fun _ => ?_) (fun hc => absurd hc (by decide))
  refine g_iload_n (i := 3) rfl rfl ?_
  refine g_iconst (n := 5) rfl ?_
  refine g_icmp_ne 95 rfl rfl (fun _ => ?_) (fun hc => absurd hc (by decide))
  refine g_iload (i := 4) rfl rfl ?_
  refine g_ireturn (ty := .int) rfl rfl rfl ?_
  exact ⟨rfl, tG_tr e1 (tG_tr e2 (e3)), by simpa only [List.append_assoc, List.cons_append, List.nil_append] using t3⟩
theorem gh_1 {d : Nat} {S : Nat} {s : Int32} {co : Nat → Int32} (hs : s.toInt = S) (hS : S < 8) (c0 : 0 ≤ (co S).toInt) (hk : (co S).toInt / 1000 = (1 : Nat)) : bGx (d + 4) 251 1 S s co (hv 1 s (cD (co S) (Int8.ofInt 100).toInt32)) (hL 1) := by
  intro h l x t h70 hl
  obtain ⟨fs0, tr0, hf0, f14_0, f17_0, f35_0, f36_0, -⟩ := id t
  have sn : s.toNatClampNeg = S := i_nat hs
  unfold hL wL pL at hl
  unfold hL wL pL
  have hP := gp_1 (d := 0) hs hS c0 hk
  unfold pL at hP
  have hW := gw_1 (d := 0) hs hS c0 hk
  unfold wL pL at hW
  refine sDo_of (d := d + 3) (nL := 5) (L := [some (.ref 60), some (.int s), some (.int x), none, none]) rfl rfl ?_
  refine g_aload_n (i := 0) rfl rfl ?_
  refine g_getfield (v := .ref 70) rfl hf0 (by decide) f17_0 ?_
  refine g_iload_n (i := 1) rfl rfl ?_
  refine g_ialv (n := 8) (f := co) (v := co S) rfl h70 (i_in (by omega) (by omega)) (congrArg co sn) ?_
  refine g_sipush (n := 1000) rfl ?_
  refine g_idiv rfl (by decide) ?_
  rw [k7_of c0 hk (by decide)]
  refine g_istore_n (i := 3) (L1 := [some (.ref 60), some (.int s), some (.int x), some (.int (Int32.ofNat 1)), none]) rfl (Nat.le_of_ble_eq_true rfl) rfl ?_
  refine g_iload_n (i := 3) rfl rfl ?_
  refine g_iconst (n := 3) rfl ?_
  refine g_icmp_ne 22 rfl rfl (fun _ => ?_) (fun hc => absurd hc (by decide))
  refine g_iload_n (i := 3) rfl rfl ?_
  refine g_iconst (n := 5) rfl ?_
  refine g_icmp_ne 33 rfl rfl (fun _ => ?_) (fun hc => absurd hc (by decide))
  refine g_aload_n (i := 0) rfl rfl ?_
  refine g_bipush (n := 12) rfl ?_
  refine g_virt1 rfl (by decide) rfl hf0 rfl (Nat.le_of_ble_eq_true rfl) (sDo_up (d := 1) (by omega) (s_body (d := 0) t (by simp only [List.length_append, List.length_cons, List.length_nil] at hl ⊢; omega))) (fun r h1 hq => ?_)
  obtain ⟨rfl, e1, t1⟩ := hq
  obtain ⟨fs1, tr1, hf1, f14_1, f17_1, f35_1, f36_1, -⟩ := id t1
  have h70_1 := (tG_at e1 (p := 70) (by decide) (by decide)).trans h70
  refine g_aload_n (i := 0) rfl rfl ?_
  refine g_iload_n (i := 1) rfl rfl ?_
  refine g_iload_n (i := 2) rfl rfl ?_
  refine g_virt2 rfl (by decide) rfl hf1 rfl (Nat.le_of_ble_eq_true rfl) (sDo_up (d := 3) (by omega) (hW _ _ _ t1 h70_1 (by simp only [List.length_append, List.length_cons, List.length_nil] at hl ⊢; omega))) (fun r h2 hq => ?_)
  obtain ⟨rfl, e2, t2⟩ := hq
  obtain ⟨fs2, tr2, hf2, f14_2, f17_2, f35_2, f36_2, -⟩ := id t2
  have h70_2 := (tG_at e2 (p := 70) (by decide) (by decide)).trans h70_1
  refine g_istore (i := 4) (L1 := [some (.ref 60), some (.int s), some (.int x), some (.int (Int32.ofNat 1)), some (.int (wv 1 s (cD (co S) (Int8.ofInt 100).toInt32) x))]) rfl (Nat.le_of_ble_eq_true rfl) rfl ?_
  refine g_iload (i := 4) rfl rfl ?_
  refine g_aload_n (i := 0) rfl rfl ?_
  refine g_iload_n (i := 1) rfl rfl ?_
  refine g_iload_n (i := 2) rfl rfl ?_
  refine g_aload_n (i := 0) rfl rfl ?_
  refine g_getfield (v := .ref 70) rfl hf2 (by decide) f17_2 ?_
  refine g_iload_n (i := 1) rfl rfl ?_
  refine g_ialv (n := 8) (f := co) (v := co S) rfl h70_2 (i_in (by omega) (by omega)) (congrArg co sn) ?_
  refine g_bipush (n := 100) rfl ?_
  refine g_idiv rfl (by decide) ?_
  refine g_bipush (n := 10) rfl ?_
  refine g_irem rfl (by decide) ?_
  refine g_isub rfl ?_
  refine g_virt2 rfl (by decide) rfl hf2 rfl (Nat.le_of_ble_eq_true rfl) (sDo_up (d := 2) (by omega) (hP _ _ _ t2 h70_2 (by simp only [List.length_append, List.length_cons, List.length_nil] at hl ⊢; omega))) (fun r h3 hq => ?_)
  obtain ⟨rfl, e3, t3⟩ := hq
  obtain ⟨fs3, tr3, hf3, f14_3, f17_3, f35_3, f36_3, -⟩ := id t3
  have h70_3 := (tG_at e3 (p := 70) (by decide) (by decide)).trans h70_2
  refine g_ixor rfl ?_
  refine g_istore (i := 4) (L1 := [some (.ref 60), some (.int s), some (.int x), some (.int (Int32.ofNat 1)), some (.int ((wv 1 s (cD (co S) (Int8.ofInt 100).toInt32) x) ^^^ (pv 1 s (cD (co S) (Int8.ofInt 100).toInt32) (x - (cD (co S) (Int8.ofInt 100).toInt32)))))]) rfl (Nat.le_of_ble_eq_true rfl) rfl ?_
  refine g_iload_n (i := 3) rfl rfl ?_
  refine g_iconst (n := 3) rfl ?_
  refine g_icmp_ne 83 rfl rfl (fun _ => ?_) (fun hc => absurd hc (by decide))
  refine g_iload_n (i := 3) rfl rfl ?_
  refine g_iconst (n := 5) rfl ?_
  refine g_icmp_ne 95 rfl rfl (fun _ => ?_) (fun hc => absurd hc (by decide))
  refine g_iload (i := 4) rfl rfl ?_
  refine g_ireturn (ty := .int) rfl rfl rfl ?_
  exact ⟨rfl, tG_tr e1 (tG_tr e2 (e3)), by simpa only [List.append_assoc, List.cons_append, List.nil_append] using t3⟩
theorem gh_2 {d : Nat} {S : Nat} {s : Int32} {co : Nat → Int32} (hs : s.toInt = S) (hS : S < 8) (c0 : 0 ≤ (co S).toInt) (hk : (co S).toInt / 1000 = (2 : Nat)) : bGx (d + 4) 251 2 S s co (hv 2 s (cD (co S) (Int8.ofInt 100).toInt32)) (hL 2) := by
  intro h l x t h70 hl
  obtain ⟨fs0, tr0, hf0, f14_0, f17_0, f35_0, f36_0, -⟩ := id t
  have sn : s.toNatClampNeg = S := i_nat hs
  unfold hL wL pL at hl
  unfold hL wL pL
  have hP := gp_2 (d := 0) hs hS c0 hk
  unfold pL at hP
  have hW := gw_2 (d := 0) hs hS c0 hk
  unfold wL pL at hW
  refine sDo_of (d := d + 3) (nL := 5) (L := [some (.ref 60), some (.int s), some (.int x), none, none]) rfl rfl ?_
  refine g_aload_n (i := 0) rfl rfl ?_
  refine g_getfield (v := .ref 70) rfl hf0 (by decide) f17_0 ?_
  refine g_iload_n (i := 1) rfl rfl ?_
  refine g_ialv (n := 8) (f := co) (v := co S) rfl h70 (i_in (by omega) (by omega)) (congrArg co sn) ?_
  refine g_sipush (n := 1000) rfl ?_
  refine g_idiv rfl (by decide) ?_
  rw [k7_of c0 hk (by decide)]
  refine g_istore_n (i := 3) (L1 := [some (.ref 60), some (.int s), some (.int x), some (.int (Int32.ofNat 2)), none]) rfl (Nat.le_of_ble_eq_true rfl) rfl ?_
  refine g_iload_n (i := 3) rfl rfl ?_
  refine g_iconst (n := 3) rfl ?_
  refine g_icmp_ne 22 rfl rfl (fun _ => ?_) (fun hc => absurd hc (by decide))
  refine g_iload_n (i := 3) rfl rfl ?_
  refine g_iconst (n := 5) rfl ?_
  refine g_icmp_ne 33 rfl rfl (fun _ => ?_) (fun hc => absurd hc (by decide))
  refine g_aload_n (i := 0) rfl rfl ?_
  refine g_bipush (n := 12) rfl ?_
  refine g_virt1 rfl (by decide) rfl hf0 rfl (Nat.le_of_ble_eq_true rfl) (sDo_up (d := 1) (by omega) (s_body (d := 0) t (by simp only [List.length_append, List.length_cons, List.length_nil] at hl ⊢; omega))) (fun r h1 hq => ?_)
  obtain ⟨rfl, e1, t1⟩ := hq
  obtain ⟨fs1, tr1, hf1, f14_1, f17_1, f35_1, f36_1, -⟩ := id t1
  have h70_1 := (tG_at e1 (p := 70) (by decide) (by decide)).trans h70
  refine g_aload_n (i := 0) rfl rfl ?_
  refine g_iload_n (i := 1) rfl rfl ?_
  refine g_iload_n (i := 2) rfl rfl ?_
  refine g_virt2 rfl (by decide) rfl hf1 rfl (Nat.le_of_ble_eq_true rfl) (sDo_up (d := 3) (by omega) (hW _ _ _ t1 h70_1 (by simp only [List.length_append, List.length_cons, List.length_nil] at hl ⊢; omega))) (fun r h2 hq => ?_)
  obtain ⟨rfl, e2, t2⟩ := hq
  obtain ⟨fs2, tr2, hf2, f14_2, f17_2, f35_2, f36_2, -⟩ := id t2
  have h70_2 := (tG_at e2 (p := 70) (by decide) (by decide)).trans h70_1
  refine g_istore (i := 4) (L1 := [some (.ref 60), some (.int s), some (.int x), some (.int (Int32.ofNat 2)), some (.int (wv 2 s (cD (co S) (Int8.ofInt 100).toInt32) x))]) rfl (Nat.le_of_ble_eq_true rfl) rfl ?_
  refine g_iload (i := 4) rfl rfl ?_
  refine g_aload_n (i := 0) rfl rfl ?_
  refine g_iload_n (i := 1) rfl rfl ?_
  refine g_iload_n (i := 2) rfl rfl ?_
  refine g_aload_n (i := 0) rfl rfl ?_
  refine g_getfield (v := .ref 70) rfl hf2 (by decide) f17_2 ?_
  refine g_iload_n (i := 1) rfl rfl ?_
  refine g_ialv (n := 8) (f := co) (v := co S) rfl h70_2 (i_in (by omega) (by omega)) (congrArg co sn) ?_
  refine g_bipush (n := 100) rfl ?_
  refine g_idiv rfl (by decide) ?_
  refine g_bipush (n := 10) rfl ?_
  refine g_irem rfl (by decide) ?_
  refine g_isub rfl ?_
  refine g_virt2 rfl (by decide) rfl hf2 rfl (Nat.le_of_ble_eq_true rfl) (sDo_up (d := 2) (by omega) (hP _ _ _ t2 h70_2 (by simp only [List.length_append, List.length_cons, List.length_nil] at hl ⊢; omega))) (fun r h3 hq => ?_)
  obtain ⟨rfl, e3, t3⟩ := hq
  obtain ⟨fs3, tr3, hf3, f14_3, f17_3, f35_3, f36_3, -⟩ := id t3
  have h70_3 := (tG_at e3 (p := 70) (by decide) (by decide)).trans h70_2
  refine g_ixor rfl ?_
  refine g_istore (i := 4) (L1 := [some (.ref 60), some (.int s), some (.int x), some (.int (Int32.ofNat 2)), some (.int ((wv 2 s (cD (co S) (Int8.ofInt 100).toInt32) x) ^^^ (pv 2 s (cD (co S) (Int8.ofInt 100).toInt32) (x - (cD (co S) (Int8.ofInt 100).toInt32)))))]) rfl (Nat.le_of_ble_eq_true rfl) rfl ?_
  refine g_iload_n (i := 3) rfl rfl ?_
  refine g_iconst (n := 3) rfl ?_
  refine g_icmp_ne 83 rfl rfl (fun _ => ?_) (fun hc => absurd hc (by decide))
  refine g_iload_n (i := 3) rfl rfl ?_
  refine g_iconst (n := 5) rfl ?_
  refine g_icmp_ne 95 rfl rfl (fun _ => ?_) (fun hc => absurd hc (by decide))
  refine g_iload (i := 4) rfl rfl ?_
  refine g_ireturn (ty := .int) rfl rfl rfl ?_
  exact ⟨rfl, tG_tr e1 (tG_tr e2 (e3)), by simpa only [List.append_assoc, List.cons_append, List.nil_append] using t3⟩
theorem gh_3 {d : Nat} {S : Nat} {s : Int32} {co : Nat → Int32} (hs : s.toInt = S) (hS : S < 8) (c0 : 0 ≤ (co S).toInt) (hk : (co S).toInt / 1000 = (3 : Nat)) : bGx (d + 4) 251 3 S s co (hv 3 s (cD (co S) (Int8.ofInt 100).toInt32)) (hL 3) := by
  intro h l x t h70 hl
  obtain ⟨fs0, tr0, hf0, f14_0, f17_0, f35_0, f36_0, -⟩ := id t
  have sn : s.toNatClampNeg = S := i_nat hs
  unfold hL wL pL at hl
  unfold hL wL pL
  have hP := gp_3 (d := 0) hs hS c0 hk
  unfold pL at hP
  have hW := gw_3 (d := 0) hs hS c0 hk
  unfold wL pL at hW
  refine sDo_of (d := d + 3) (nL := 5) (L := [some (.ref 60), some (.int s), some (.int x), none, none]) rfl rfl ?_
  refine g_aload_n (i := 0) rfl rfl ?_
  refine g_getfield (v := .ref 70) rfl hf0 (by decide) f17_0 ?_
  refine g_iload_n (i := 1) rfl rfl ?_
  refine g_ialv (n := 8) (f := co) (v := co S) rfl h70 (i_in (by omega) (by omega)) (congrArg co sn) ?_
  refine g_sipush (n := 1000) rfl ?_
  refine g_idiv rfl (by decide) ?_
  rw [k7_of c0 hk (by decide)]
  refine g_istore_n (i := 3) (L1 := [some (.ref 60), some (.int s), some (.int x), some (.int (Int32.ofNat 3)), none]) rfl (Nat.le_of_ble_eq_true rfl) rfl ?_
  refine g_iload_n (i := 3) rfl rfl ?_
  refine g_iconst (n := 3) rfl ?_
  refine g_icmp_ne 22 rfl rfl (fun hc => absurd hc (by decide)) (fun _ => ?_)
  refine g_aload_n (i := 0) rfl rfl ?_
  refine g_bipush (n := 40) rfl ?_
  refine g_virt1 rfl (by decide) rfl hf0 rfl (Nat.le_of_ble_eq_true rfl) (sDo_up (d := 1) (by omega) (s_body (d := 0) t (by simp only [List.length_append, List.length_cons, List.length_nil] at hl ⊢; omega))) (fun r h1 hq => ?_)
  obtain ⟨rfl, e1, t1⟩ := hq
  obtain ⟨fs1, tr1, hf1, f14_1, f17_1, f35_1, f36_1, -⟩ := id t1
  have h70_1 := (tG_at e1 (p := 70) (by decide) (by decide)).trans h70
  refine g_iload_n (i := 3) rfl rfl ?_
  refine g_iconst (n := 5) rfl ?_
  refine g_icmp_ne 33 rfl rfl (fun _ => ?_) (fun hc => absurd hc (by decide))
  refine g_aload_n (i := 0) rfl rfl ?_
  refine g_bipush (n := 12) rfl ?_
  refine g_virt1 rfl (by decide) rfl hf1 rfl (Nat.le_of_ble_eq_true rfl) (sDo_up (d := 1) (by omega) (s_body (d := 0) t1 (by simp only [List.length_append, List.length_cons, List.length_nil] at hl ⊢; omega))) (fun r h2 hq => ?_)
  obtain ⟨rfl, e2, t2⟩ := hq
  obtain ⟨fs2, tr2, hf2, f14_2, f17_2, f35_2, f36_2, -⟩ := id t2
  have h70_2 := (tG_at e2 (p := 70) (by decide) (by decide)).trans h70_1
  refine g_aload_n (i := 0) rfl rfl ?_
  refine g_iload_n (i := 1) rfl rfl ?_
  refine g_iload_n (i := 2) rfl rfl ?_
  refine g_virt2 rfl (by decide) rfl hf2 rfl (Nat.le_of_ble_eq_true rfl) (sDo_up (d := 3) (by omega) (hW _ _ _ t2 h70_2 (by simp only [List.length_append, List.length_cons, List.length_nil] at hl ⊢; omega))) (fun r h3 hq => ?_)
  obtain ⟨rfl, e3, t3⟩ := hq
  obtain ⟨fs3, tr3, hf3, f14_3, f17_3, f35_3, f36_3, -⟩ := id t3
  have h70_3 := (tG_at e3 (p := 70) (by decide) (by decide)).trans h70_2
  refine g_istore (i := 4) (L1 := [some (.ref 60), some (.int s), some (.int x), some (.int (Int32.ofNat 3)), some (.int (wv 3 s (cD (co S) (Int8.ofInt 100).toInt32) x))]) rfl (Nat.le_of_ble_eq_true rfl) rfl ?_
  refine g_iload (i := 4) rfl rfl ?_
  refine g_aload_n (i := 0) rfl rfl ?_
  refine g_iload_n (i := 1) rfl rfl ?_
  refine g_iload_n (i := 2) rfl rfl ?_
  refine g_aload_n (i := 0) rfl rfl ?_
  refine g_getfield (v := .ref 70) rfl hf3 (by decide) f17_3 ?_
  refine g_iload_n (i := 1) rfl rfl ?_
  refine g_ialv (n := 8) (f := co) (v := co S) rfl h70_3 (i_in (by omega) (by omega)) (congrArg co sn) ?_
  refine g_bipush (n := 100) rfl ?_
  refine g_idiv rfl (by decide) ?_
  refine g_bipush (n := 10) rfl ?_
  refine g_irem rfl (by decide) ?_
  refine g_isub rfl ?_
  refine g_virt2 rfl (by decide) rfl hf3 rfl (Nat.le_of_ble_eq_true rfl) (sDo_up (d := 2) (by omega) (hP _ _ _ t3 h70_3 (by simp only [List.length_append, List.length_cons, List.length_nil] at hl ⊢; omega))) (fun r h4 hq => ?_)
  obtain ⟨rfl, e4, t4⟩ := hq
  obtain ⟨fs4, tr4, hf4, f14_4, f17_4, f35_4, f36_4, -⟩ := id t4
  have h70_4 := (tG_at e4 (p := 70) (by decide) (by decide)).trans h70_3
  refine g_ixor rfl ?_
  refine g_istore (i := 4) (L1 := [some (.ref 60), some (.int s), some (.int x), some (.int (Int32.ofNat 3)), some (.int ((wv 3 s (cD (co S) (Int8.ofInt 100).toInt32) x) ^^^ (pv 3 s (cD (co S) (Int8.ofInt 100).toInt32) (x - (cD (co S) (Int8.ofInt 100).toInt32)))))]) rfl (Nat.le_of_ble_eq_true rfl) rfl ?_
  refine g_iload_n (i := 3) rfl rfl ?_
  refine g_iconst (n := 3) rfl ?_
  refine g_icmp_ne 83 rfl rfl (fun hc => absurd hc (by decide)) (fun _ => ?_)
  refine g_iload (i := 4) rfl rfl ?_
  refine g_iload_n (i := 1) rfl rfl ?_
  refine g_isub rfl ?_
  refine g_goto 97 rfl rfl ?_
  refine g_ireturn (ty := .int) rfl rfl rfl ?_
  exact ⟨rfl, tG_tr e1 (tG_tr e2 (tG_tr e3 (e4))), by simpa only [List.append_assoc, List.cons_append, List.nil_append] using t4⟩
theorem gh_4 {d : Nat} {S : Nat} {s : Int32} {co : Nat → Int32} (hs : s.toInt = S) (hS : S < 8) (c0 : 0 ≤ (co S).toInt) (hk : (co S).toInt / 1000 = (4 : Nat)) : bGx (d + 4) 251 4 S s co (hv 4 s (cD (co S) (Int8.ofInt 100).toInt32)) (hL 4) := by
  intro h l x t h70 hl
  obtain ⟨fs0, tr0, hf0, f14_0, f17_0, f35_0, f36_0, -⟩ := id t
  have sn : s.toNatClampNeg = S := i_nat hs
  unfold hL wL pL at hl
  unfold hL wL pL
  have hP := gp_4 (d := 0) hs hS c0 hk
  unfold pL at hP
  have hW := gw_4 (d := 0) hs hS c0 hk
  unfold wL pL at hW
  refine sDo_of (d := d + 3) (nL := 5) (L := [some (.ref 60), some (.int s), some (.int x), none, none]) rfl rfl ?_
  refine g_aload_n (i := 0) rfl rfl ?_
  refine g_getfield (v := .ref 70) rfl hf0 (by decide) f17_0 ?_
  refine g_iload_n (i := 1) rfl rfl ?_
  refine g_ialv (n := 8) (f := co) (v := co S) rfl h70 (i_in (by omega) (by omega)) (congrArg co sn) ?_
  refine g_sipush (n := 1000) rfl ?_
  refine g_idiv rfl (by decide) ?_
  rw [k7_of c0 hk (by decide)]
  refine g_istore_n (i := 3) (L1 := [some (.ref 60), some (.int s), some (.int x), some (.int (Int32.ofNat 4)), none]) rfl (Nat.le_of_ble_eq_true rfl) rfl ?_
  refine g_iload_n (i := 3) rfl rfl ?_
  refine g_iconst (n := 3) rfl ?_
  refine g_icmp_ne 22 rfl rfl (fun _ => ?_) (fun hc => absurd hc (by decide))
  refine g_iload_n (i := 3) rfl rfl ?_
  refine g_iconst (n := 5) rfl ?_
  refine g_icmp_ne 33 rfl rfl (fun _ => ?_) (fun hc => absurd hc (by decide))
  refine g_aload_n (i := 0) rfl rfl ?_
  refine g_bipush (n := 12) rfl ?_
  refine g_virt1 rfl (by decide) rfl hf0 rfl (Nat.le_of_ble_eq_true rfl) (sDo_up (d := 1) (by omega) (s_body (d := 0) t (by simp only [List.length_append, List.length_cons, List.length_nil] at hl ⊢; omega))) (fun r h1 hq => ?_)
  obtain ⟨rfl, e1, t1⟩ := hq
  obtain ⟨fs1, tr1, hf1, f14_1, f17_1, f35_1, f36_1, -⟩ := id t1
  have h70_1 := (tG_at e1 (p := 70) (by decide) (by decide)).trans h70
  refine g_aload_n (i := 0) rfl rfl ?_
  refine g_iload_n (i := 1) rfl rfl ?_
  refine g_iload_n (i := 2) rfl rfl ?_
  refine g_virt2 rfl (by decide) rfl hf1 rfl (Nat.le_of_ble_eq_true rfl) (sDo_up (d := 3) (by omega) (hW _ _ _ t1 h70_1 (by simp only [List.length_append, List.length_cons, List.length_nil] at hl ⊢; omega))) (fun r h2 hq => ?_)
  obtain ⟨rfl, e2, t2⟩ := hq
  obtain ⟨fs2, tr2, hf2, f14_2, f17_2, f35_2, f36_2, -⟩ := id t2
  have h70_2 := (tG_at e2 (p := 70) (by decide) (by decide)).trans h70_1
  refine g_istore (i := 4) (L1 := [some (.ref 60), some (.int s), some (.int x), some (.int (Int32.ofNat 4)), some (.int (wv 4 s (cD (co S) (Int8.ofInt 100).toInt32) x))]) rfl (Nat.le_of_ble_eq_true rfl) rfl ?_
  refine g_iload (i := 4) rfl rfl ?_
  refine g_aload_n (i := 0) rfl rfl ?_
  refine g_iload_n (i := 1) rfl rfl ?_
  refine g_iload_n (i := 2) rfl rfl ?_
  refine g_aload_n (i := 0) rfl rfl ?_
  refine g_getfield (v := .ref 70) rfl hf2 (by decide) f17_2 ?_
  refine g_iload_n (i := 1) rfl rfl ?_
  refine g_ialv (n := 8) (f := co) (v := co S) rfl h70_2 (i_in (by omega) (by omega)) (congrArg co sn) ?_
  refine g_bipush (n := 100) rfl ?_
  refine g_idiv rfl (by decide) ?_
  refine g_bipush (n := 10) rfl ?_
  refine g_irem rfl (by decide) ?_
  refine g_isub rfl ?_
  refine g_virt2 rfl (by decide) rfl hf2 rfl (Nat.le_of_ble_eq_true rfl) (sDo_up (d := 2) (by omega) (hP _ _ _ t2 h70_2 (by simp only [List.length_append, List.length_cons, List.length_nil] at hl ⊢; omega))) (fun r h3 hq => ?_)
  obtain ⟨rfl, e3, t3⟩ := hq
  obtain ⟨fs3, tr3, hf3, f14_3, f17_3, f35_3, f36_3, -⟩ := id t3
  have h70_3 := (tG_at e3 (p := 70) (by decide) (by decide)).trans h70_2
  refine g_ixor rfl ?_
  refine g_istore (i := 4) (L1 := [some (.ref 60), some (.int s), some (.int x), some (.int (Int32.ofNat 4)), some (.int ((wv 4 s (cD (co S) (Int8.ofInt 100).toInt32) x) ^^^ (pv 4 s (cD (co S) (Int8.ofInt 100).toInt32) (x - (cD (co S) (Int8.ofInt 100).toInt32)))))]) rfl (Nat.le_of_ble_eq_true rfl) rfl ?_
  refine g_iload_n (i := 3) rfl rfl ?_
  refine g_iconst (n := 3) rfl ?_
  refine g_icmp_ne 83 rfl rfl (fun _ => ?_) (fun hc => absurd hc (by decide))
  refine g_iload_n (i := 3) rfl rfl ?_
  refine g_iconst (n := 5) rfl ?_
  refine g_icmp_ne 95 rfl rfl (fun _ => ?_) (fun hc => absurd hc (by decide))
  refine g_iload (i := 4) rfl rfl ?_
  refine g_ireturn (ty := .int) rfl rfl rfl ?_
  exact ⟨rfl, tG_tr e1 (tG_tr e2 (e3)), by simpa only [List.append_assoc, List.cons_append, List.nil_append] using t3⟩
theorem gh_5 {d : Nat} {S : Nat} {s : Int32} {co : Nat → Int32} (hs : s.toInt = S) (hS : S < 8) (c0 : 0 ≤ (co S).toInt) (hk : (co S).toInt / 1000 = (5 : Nat)) : bGx (d + 4) 251 5 S s co (hv 5 s (cD (co S) (Int8.ofInt 100).toInt32)) (hL 5) := by
  intro h l x t h70 hl
  obtain ⟨fs0, tr0, hf0, f14_0, f17_0, f35_0, f36_0, -⟩ := id t
  have sn : s.toNatClampNeg = S := i_nat hs
  unfold hL wL pL at hl
  unfold hL wL pL
  have hP := gp_5 (d := 0) hs hS c0 hk
  unfold pL at hP
  have hW := gw_5 (d := 0) hs hS c0 hk
  unfold wL pL at hW
  refine sDo_of (d := d + 3) (nL := 5) (L := [some (.ref 60), some (.int s), some (.int x), none, none]) rfl rfl ?_
  refine g_aload_n (i := 0) rfl rfl ?_
  refine g_getfield (v := .ref 70) rfl hf0 (by decide) f17_0 ?_
  refine g_iload_n (i := 1) rfl rfl ?_
  refine g_ialv (n := 8) (f := co) (v := co S) rfl h70 (i_in (by omega) (by omega)) (congrArg co sn) ?_
  refine g_sipush (n := 1000) rfl ?_
  refine g_idiv rfl (by decide) ?_
  rw [k7_of c0 hk (by decide)]
  refine g_istore_n (i := 3) (L1 := [some (.ref 60), some (.int s), some (.int x), some (.int (Int32.ofNat 5)), none]) rfl (Nat.le_of_ble_eq_true rfl) rfl ?_
  refine g_iload_n (i := 3) rfl rfl ?_
  refine g_iconst (n := 3) rfl ?_
  refine g_icmp_ne 22 rfl rfl (fun _ => ?_) (fun hc => absurd hc (by decide))
  refine g_iload_n (i := 3) rfl rfl ?_
  refine g_iconst (n := 5) rfl ?_
  refine g_icmp_ne 33 rfl rfl (fun hc => absurd hc (by decide)) (fun _ => ?_)
  refine g_aload_n (i := 0) rfl rfl ?_
  refine g_bipush (n := 60) rfl ?_
  refine g_virt1 rfl (by decide) rfl hf0 rfl (Nat.le_of_ble_eq_true rfl) (sDo_up (d := 1) (by omega) (s_body (d := 0) t (by simp only [List.length_append, List.length_cons, List.length_nil] at hl ⊢; omega))) (fun r h1 hq => ?_)
  obtain ⟨rfl, e1, t1⟩ := hq
  obtain ⟨fs1, tr1, hf1, f14_1, f17_1, f35_1, f36_1, -⟩ := id t1
  have h70_1 := (tG_at e1 (p := 70) (by decide) (by decide)).trans h70
  refine g_aload_n (i := 0) rfl rfl ?_
  refine g_bipush (n := 12) rfl ?_
  refine g_virt1 rfl (by decide) rfl hf1 rfl (Nat.le_of_ble_eq_true rfl) (sDo_up (d := 1) (by omega) (s_body (d := 0) t1 (by simp only [List.length_append, List.length_cons, List.length_nil] at hl ⊢; omega))) (fun r h2 hq => ?_)
  obtain ⟨rfl, e2, t2⟩ := hq
  obtain ⟨fs2, tr2, hf2, f14_2, f17_2, f35_2, f36_2, -⟩ := id t2
  have h70_2 := (tG_at e2 (p := 70) (by decide) (by decide)).trans h70_1
  refine g_aload_n (i := 0) rfl rfl ?_
  refine g_iload_n (i := 1) rfl rfl ?_
  refine g_iload_n (i := 2) rfl rfl ?_
  refine g_virt2 rfl (by decide) rfl hf2 rfl (Nat.le_of_ble_eq_true rfl) (sDo_up (d := 3) (by omega) (hW _ _ _ t2 h70_2 (by simp only [List.length_append, List.length_cons, List.length_nil] at hl ⊢; omega))) (fun r h3 hq => ?_)
  obtain ⟨rfl, e3, t3⟩ := hq
  obtain ⟨fs3, tr3, hf3, f14_3, f17_3, f35_3, f36_3, -⟩ := id t3
  have h70_3 := (tG_at e3 (p := 70) (by decide) (by decide)).trans h70_2
  refine g_istore (i := 4) (L1 := [some (.ref 60), some (.int s), some (.int x), some (.int (Int32.ofNat 5)), some (.int (wv 5 s (cD (co S) (Int8.ofInt 100).toInt32) x))]) rfl (Nat.le_of_ble_eq_true rfl) rfl ?_
  refine g_iload (i := 4) rfl rfl ?_
  refine g_aload_n (i := 0) rfl rfl ?_
  refine g_iload_n (i := 1) rfl rfl ?_
  refine g_iload_n (i := 2) rfl rfl ?_
  refine g_aload_n (i := 0) rfl rfl ?_
  refine g_getfield (v := .ref 70) rfl hf3 (by decide) f17_3 ?_
  refine g_iload_n (i := 1) rfl rfl ?_
  refine g_ialv (n := 8) (f := co) (v := co S) rfl h70_3 (i_in (by omega) (by omega)) (congrArg co sn) ?_
  refine g_bipush (n := 100) rfl ?_
  refine g_idiv rfl (by decide) ?_
  refine g_bipush (n := 10) rfl ?_
  refine g_irem rfl (by decide) ?_
  refine g_isub rfl ?_
  refine g_virt2 rfl (by decide) rfl hf3 rfl (Nat.le_of_ble_eq_true rfl) (sDo_up (d := 2) (by omega) (hP _ _ _ t3 h70_3 (by simp only [List.length_append, List.length_cons, List.length_nil] at hl ⊢; omega))) (fun r h4 hq => ?_)
  obtain ⟨rfl, e4, t4⟩ := hq
  obtain ⟨fs4, tr4, hf4, f14_4, f17_4, f35_4, f36_4, -⟩ := id t4
  have h70_4 := (tG_at e4 (p := 70) (by decide) (by decide)).trans h70_3
  refine g_ixor rfl ?_
  refine g_istore (i := 4) (L1 := [some (.ref 60), some (.int s), some (.int x), some (.int (Int32.ofNat 5)), some (.int ((wv 5 s (cD (co S) (Int8.ofInt 100).toInt32) x) ^^^ (pv 5 s (cD (co S) (Int8.ofInt 100).toInt32) (x - (cD (co S) (Int8.ofInt 100).toInt32)))))]) rfl (Nat.le_of_ble_eq_true rfl) rfl ?_
  refine g_iload_n (i := 3) rfl rfl ?_
  refine g_iconst (n := 3) rfl ?_
  refine g_icmp_ne 83 rfl rfl (fun _ => ?_) (fun hc => absurd hc (by decide))
  refine g_iload_n (i := 3) rfl rfl ?_
  refine g_iconst (n := 5) rfl ?_
  refine g_icmp_ne 95 rfl rfl (fun hc => absurd hc (by decide)) (fun _ => ?_)
  refine g_iload (i := 4) rfl rfl ?_
  refine g_iconst (n := 5) rfl ?_
  refine g_ixor rfl ?_
  refine g_goto 97 rfl rfl ?_
  refine g_ireturn (ty := .int) rfl rfl rfl ?_
  exact ⟨rfl, tG_tr e1 (tG_tr e2 (tG_tr e3 (e4))), by simpa only [List.append_assoc, List.cons_append, List.nil_append] using t4⟩
theorem gh_6 {d : Nat} {S : Nat} {s : Int32} {co : Nat → Int32} (hs : s.toInt = S) (hS : S < 8) (c0 : 0 ≤ (co S).toInt) (hk : (co S).toInt / 1000 = (6 : Nat)) : bGx (d + 4) 251 6 S s co (hv 6 s (cD (co S) (Int8.ofInt 100).toInt32)) (hL 6) := by
  intro h l x t h70 hl
  obtain ⟨fs0, tr0, hf0, f14_0, f17_0, f35_0, f36_0, -⟩ := id t
  have sn : s.toNatClampNeg = S := i_nat hs
  unfold hL wL pL at hl
  unfold hL wL pL
  have hP := gp_6 (d := 0) hs hS c0 hk
  unfold pL at hP
  have hW := gw_6 (d := 0) hs hS c0 hk
  unfold wL pL at hW
  refine sDo_of (d := d + 3) (nL := 5) (L := [some (.ref 60), some (.int s), some (.int x), none, none]) rfl rfl ?_
  refine g_aload_n (i := 0) rfl rfl ?_
  refine g_getfield (v := .ref 70) rfl hf0 (by decide) f17_0 ?_
  refine g_iload_n (i := 1) rfl rfl ?_
  refine g_ialv (n := 8) (f := co) (v := co S) rfl h70 (i_in (by omega) (by omega)) (congrArg co sn) ?_
  refine g_sipush (n := 1000) rfl ?_
  refine g_idiv rfl (by decide) ?_
  rw [k7_of c0 hk (by decide)]
  refine g_istore_n (i := 3) (L1 := [some (.ref 60), some (.int s), some (.int x), some (.int (Int32.ofNat 6)), none]) rfl (Nat.le_of_ble_eq_true rfl) rfl ?_
  refine g_iload_n (i := 3) rfl rfl ?_
  refine g_iconst (n := 3) rfl ?_
  refine g_icmp_ne 22 rfl rfl (fun _ => ?_) (fun hc => absurd hc (by decide))
  refine g_iload_n (i := 3) rfl rfl ?_
  refine g_iconst (n := 5) rfl ?_
  refine g_icmp_ne 33 rfl rfl (fun _ => ?_) (fun hc => absurd hc (by decide))
  refine g_aload_n (i := 0) rfl rfl ?_
  refine g_bipush (n := 12) rfl ?_
  refine g_virt1 rfl (by decide) rfl hf0 rfl (Nat.le_of_ble_eq_true rfl) (sDo_up (d := 1) (by omega) (s_body (d := 0) t (by simp only [List.length_append, List.length_cons, List.length_nil] at hl ⊢; omega))) (fun r h1 hq => ?_)
  obtain ⟨rfl, e1, t1⟩ := hq
  obtain ⟨fs1, tr1, hf1, f14_1, f17_1, f35_1, f36_1, -⟩ := id t1
  have h70_1 := (tG_at e1 (p := 70) (by decide) (by decide)).trans h70
  refine g_aload_n (i := 0) rfl rfl ?_
  refine g_iload_n (i := 1) rfl rfl ?_
  refine g_iload_n (i := 2) rfl rfl ?_
  refine g_virt2 rfl (by decide) rfl hf1 rfl (Nat.le_of_ble_eq_true rfl) (sDo_up (d := 3) (by omega) (hW _ _ _ t1 h70_1 (by simp only [List.length_append, List.length_cons, List.length_nil] at hl ⊢; omega))) (fun r h2 hq => ?_)
  obtain ⟨rfl, e2, t2⟩ := hq
  obtain ⟨fs2, tr2, hf2, f14_2, f17_2, f35_2, f36_2, -⟩ := id t2
  have h70_2 := (tG_at e2 (p := 70) (by decide) (by decide)).trans h70_1
  refine g_istore (i := 4) (L1 := [some (.ref 60), some (.int s), some (.int x), some (.int (Int32.ofNat 6)), some (.int (wv 6 s (cD (co S) (Int8.ofInt 100).toInt32) x))]) rfl (Nat.le_of_ble_eq_true rfl) rfl ?_
  refine g_iload (i := 4) rfl rfl ?_
  refine g_aload_n (i := 0) rfl rfl ?_
  refine g_iload_n (i := 1) rfl rfl ?_
  refine g_iload_n (i := 2) rfl rfl ?_
  refine g_aload_n (i := 0) rfl rfl ?_
  refine g_getfield (v := .ref 70) rfl hf2 (by decide) f17_2 ?_
  refine g_iload_n (i := 1) rfl rfl ?_
  refine g_ialv (n := 8) (f := co) (v := co S) rfl h70_2 (i_in (by omega) (by omega)) (congrArg co sn) ?_
  refine g_bipush (n := 100) rfl ?_
  refine g_idiv rfl (by decide) ?_
  refine g_bipush (n := 10) rfl ?_
  refine g_irem rfl (by decide) ?_
  refine g_isub rfl ?_
  refine g_virt2 rfl (by decide) rfl hf2 rfl (Nat.le_of_ble_eq_true rfl) (sDo_up (d := 2) (by omega) (hP _ _ _ t2 h70_2 (by simp only [List.length_append, List.length_cons, List.length_nil] at hl ⊢; omega))) (fun r h3 hq => ?_)
  obtain ⟨rfl, e3, t3⟩ := hq
  obtain ⟨fs3, tr3, hf3, f14_3, f17_3, f35_3, f36_3, -⟩ := id t3
  have h70_3 := (tG_at e3 (p := 70) (by decide) (by decide)).trans h70_2
  refine g_ixor rfl ?_
  refine g_istore (i := 4) (L1 := [some (.ref 60), some (.int s), some (.int x), some (.int (Int32.ofNat 6)), some (.int ((wv 6 s (cD (co S) (Int8.ofInt 100).toInt32) x) ^^^ (pv 6 s (cD (co S) (Int8.ofInt 100).toInt32) (x - (cD (co S) (Int8.ofInt 100).toInt32)))))]) rfl (Nat.le_of_ble_eq_true rfl) rfl ?_
  refine g_iload_n (i := 3) rfl rfl ?_
  refine g_iconst (n := 3) rfl ?_
  refine g_icmp_ne 83 rfl rfl (fun _ => ?_) (fun hc => absurd hc (by decide))
  refine g_iload_n (i := 3) rfl rfl ?_
  refine g_iconst (n := 5) rfl ?_
  refine g_icmp_ne 95 rfl rfl (fun _ => ?_) (fun hc => absurd hc (by decide))
  refine g_iload (i := 4) rfl rfl ?_
  refine g_ireturn (ty := .int) rfl rfl rfl ?_
  exact ⟨rfl, tG_tr e1 (tG_tr e2 (e3)), by simpa only [List.append_assoc, List.cons_append, List.nil_append] using t3⟩
end
