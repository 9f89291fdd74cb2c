/-! ===== the class's field: sets, size ===== -/
def lowS (n : Int32) : Int64 := if n.toInt ≤ 0 then 0 else if 64 ≤ n.toInt then Int64.ofNat 18446744073709551615 else (Int64.ofNat 1 <<< (n.toInt64 &&& 63)) - Int64.ofNat 1
theorem s_lowest {d : Nat} {h : sHp} {n : Int32} : sDo (d + 1) 26 [.int n] h (fun r h' => h' = h ∧ r = some (.long (lowS n))) := by
  have e0 : (0 : Int32).toInt = 0 := rfl
  have e64 : (Int8.ofInt 64).toInt32.toInt = 64 := rfl
  unfold lowS
  refine sDo_of (d := d) (nL := 1) (L := [some (.int n)]) rfl rfl ?_
  refine g_iload_n (i := 0) rfl rfl ?_
  refine g_if_gt 6 rfl rfl (fun c1 => ?_) (fun c1 => ?_)
  · skip
    rw [i_lt, e0] at c1
    rw [if_neg (by omega)]
    refine g_iload_n (i := 0) rfl rfl ?_
    refine g_bipush (n := 64) rfl ?_
    refine g_icmp_lt 18 rfl rfl (fun c2 => ?_) (fun c2 => ?_)
    · skip
      rw [i_lt, e64] at c2
      rw [if_neg (by omega)]
      refine g_lconst (n := 1) rfl ?_
      refine g_iload_n (i := 0) rfl rfl ?_
      refine g_lshl rfl ?_
      refine g_lconst (n := 1) rfl ?_
      refine g_lsub rfl ?_
      refine g_lreturn rfl rfl ?_
      exact ⟨rfl, rfl⟩
    · skip
      rw [i_lt, e64] at c2
      rw [if_pos (by omega)]
      refine g_ldc2_w (j := 18446744073709551615) rfl ?_
      refine g_goto 23 rfl rfl ?_
      refine g_lreturn rfl rfl ?_
      exact ⟨rfl, rfl⟩
  · skip
    rw [i_lt, e0] at c1
    rw [if_pos (by omega)]
    refine g_lconst (n := 0) rfl ?_
    refine g_lreturn rfl rfl ?_
    exact ⟨rfl, rfl⟩
theorem s_below {d : Nat} {h : sHp} {p : Nat} {c : CF} {n : Int32} (F : FC h p c) : sDo (d + 2) 27 [.ref p, .int n] h (fun r h' => h' = h ∧ r = some (.long (lowS n &&& c.2.1 2))) := by
  have a0 := F.1
  refine sDo_of (d := d + 1) (nL := 2) (L := [some (.ref p), some (.int n)]) rfl rfl ?_
  refine g_iload_n (i := 1) rfl rfl ?_
  refine g_static1 (Qc := fun r h' => h' = h ∧ r = some (.long (lowS n))) rfl (by decide) rfl (Nat.le_of_ble_eq_true rfl) (s_lowest (d := d)) (fun r h9 hq9 => ?_)
  obtain ⟨rfl, rfl⟩ := hq9
  refine g_aload_n (i := 0) rfl rfl ?_
  refine g_getfield (v := .long (c.2.1 2)) rfl a0 (by decide) rfl ?_
  refine g_land rfl ?_
  refine g_lreturn rfl rfl ?_
  exact ⟨rfl, rfl⟩
/-- a set goes over to one of the sets -/
def gvF (el : Nat → Int64) (set : Int64) (k : Nat) : Nat → Int64 := fun i => if i < k then el i &&& (set ^^^ Int64.ofNat 18446744073709551615) else el i
theorem gvF_0 (el : Nat → Int64) (set : Int64) : gvF el set 0 = el := funext fun i => if_neg (Nat.not_lt_zero i)
theorem gvF_s (el : Nat → Int64) (set : Int64) (k : Nat) : vp_updL (gvF el set k) k (gvF el set k k &&& (set ^^^ Int64.ofNat 18446744073709551615)) = gvF el set (k + 1) := funext fun i => by
  unfold vp_updL gvF
  by_cases h : i = k
  · rw [if_pos h, if_neg (Nat.lt_irrefl k), if_pos (show i < k + 1 by omega), h]
  · rw [if_neg h]
    by_cases h2 : i < k
    · rw [if_pos h2, if_pos (show i < k + 1 by omega)]
    · rw [if_neg h2, if_neg (show ¬ i < k + 1 by omega)]
def giveS (el : Nat → Int64) (len : Nat) (set : Int64) (s : Nat) : Nat → Int64 := vp_updL (gvF el set len) s (gvF el set len s ||| set)
theorem s_give_go {d : Nat} {h : sHp} {q len : Nat} {el : Nat → Int64} {set : Int64} {slot : Int32} {S : Nat} (hq : h[q]? = some (.inl (1, len, .inr (.inl el)))) (hl : len ≤ 100) (hs : slot.toInt = S) (hS : S < len) : ∀ (N k : Nat), k ≤ len → len - k < N → sGo none 19 d 14 [some (.ref q), some (.long set), none, some (.int slot), some (.int (Int32.ofNat k))] [] (h.set q (.inl (1, len, .inr (.inl (gvF el set k))))) (fun r h' => r = none ∧ h' = h.set q (.inl (1, len, .inr (.inl (giveS el len set S))))) := by
  have el' := ofN_toInt (n := len) (by omega)
  intro N
  induction N with
  | zero => intro k _ hl; omega
  | succ N ih =>
    intro k hk hl'
    have ek := ofN_toInt (n := k) (by omega)
    have hq' : (h.set q (.inl (1, len, .inr (.inl (gvF el set k)))))[q]? = some (.inl (1, len, .inr (.inl (gvF el set k)))) := s_set_eq hq
    refine g_iload (i := 4) rfl rfl ?_
    refine g_aload_n (i := 0) rfl rfl ?_
    refine g_alen rfl hq' (by decide) ?_
    refine g_icmp_ge 39 rfl rfl (fun hc => ?_) (fun hc => ?_)
    · skip
      rw [i_le, el', ek] at hc
      have hkl : k = len := by omega
      subst hkl
      refine g_aload_n (i := 0) rfl rfl ?_
      refine g_iload_n (i := 3) rfl rfl ?_
      refine g_dup2 rfl rfl rfl ?_
      refine g_laload (n := k) (f := gvF el set k) rfl hq' (i_in (by omega) (by omega)) ?_
      rw [i_nat hs]
      refine g_lload_n (i := 1) rfl rfl ?_
      refine g_lor rfl ?_
      refine g_lastore (h1 := h.set q (.inl (1, k, .inr (.inl (giveS el k set S))))) rfl hq' (i_in (by omega) (by omega)) (by rw [i_nat hs, List.set_set]; rfl) ?_
      refine g_return rfl rfl ?_
      exact ⟨rfl, rfl⟩
    · skip
      rw [i_le, el', ek] at hc
      refine g_aload_n (i := 0) rfl rfl ?_
      refine g_iload (i := 4) rfl rfl ?_
      refine g_dup2 rfl rfl rfl ?_
      refine g_laload (n := len) (f := gvF el set k) rfl hq' (i_in (by omega) (by omega)) ?_
      rw [i_nat ek]
      refine g_lload_n (i := 1) rfl rfl ?_
      refine g_ldc2_w (j := 18446744073709551615) rfl ?_
      refine g_lxor rfl ?_
      refine g_land rfl ?_
      refine g_lastore (h1 := h.set q (.inl (1, len, .inr (.inl (gvF el set (k + 1)))))) rfl hq' (i_in (by omega) (by omega)) (by rw [i_nat ek, List.set_set]; exact congrArg (fun e => h.set q (.inl (1, len, .inr (.inl e)))) (gvF_s el set k)) ?_
      refine g_iinc (i := 4) (L1 := [some (.ref q), some (.long set), none, some (.int slot), some (.int ((Int32.ofNat k) + Int32.ofInt 1))]) rfl rfl rfl ?_
      rw [ofN_add (by omega)]
      refine g_goto 14 rfl rfl ?_
      exact ih (k + 1) (by omega) (by omega)
theorem s_give {d : Nat} {h : sHp} {q len : Nat} {el : Nat → Int64} {set : Int64} {slot : Int32} {S : Nat} (hq : h[q]? = some (.inl (1, len, .inr (.inl el)))) (hl : len ≤ 100) (hs : slot.toInt = S) (hS : S < len) : sDo (d + 1) 19 [.ref q, .long set, .int slot] h (fun r h' => r = none ∧ h' = h.set q (.inl (1, len, .inr (.inl (giveS el len set S))))) := by
  have el' := ofN_toInt (n := len) (by omega)
  have e0 : (0 : Int32).toInt = 0 := rfl
  refine sDo_of (d := d) (nL := 5) (L := [some (.ref q), some (.long set), none, some (.int slot), none]) rfl rfl ?_
  refine g_iload_n (i := 3) rfl rfl ?_
  refine g_if_lt 10 rfl rfl (fun hc => absurd hc (by rw [i_lt, e0]; omega)) (fun _ => ?_)
  refine g_iload_n (i := 3) rfl rfl ?_
  refine g_aload_n (i := 0) rfl rfl ?_
  refine g_alen rfl hq (by decide) ?_
  refine g_icmp_lt 11 rfl rfl (fun _ => ?_) (fun hc => absurd hc (by rw [i_lt, el']; omega))
  refine g_iconst (n := 0) rfl ?_
  refine g_istore (i := 4) (L1 := [some (.ref q), some (.long set), none, some (.int slot), some (.int (Int32.ofInt 0))]) rfl (Nat.le_of_ble_eq_true rfl) rfl ?_
  have h0 := s_give_go (d := d) (set := set) hq hl hs hS (len + 1) 0 (Nat.zero_le _) (by omega)
  rw [gvF_0, s_set_self hq] at h0
  exact h0
theorem s_laySoil {d : Nat} {h : sHp} {p : Nat} {c : CF} {set : Int64} {v : Int32} {V : Nat} (F : FC h p c) (hv : v.toInt = V) (hV : V < 6) : sDo (d + 2) 33 [.ref p, .long set, .int v] h (fun r h' => r = none ∧ h' = h.set (p + 1) (.inl (1, 6, .inr (.inl (giveS c.2.2.1 6 set V))))) := by
  have a0 := F.1
  refine sDo_of (d := d + 1) (nL := 4) (L := [some (.ref p), some (.long set), none, some (.int v)]) rfl rfl ?_
  refine g_aload_n (i := 0) rfl rfl ?_
  refine g_getfield (v := .ref (p + 1)) rfl a0 (by decide) rfl ?_
  refine g_lload_n (i := 1) rfl rfl ?_
  refine g_iload_n (i := 3) rfl rfl ?_
  refine g_static3 (Qc := fun r h' => r = none ∧ h' = h.set (p + 1) (.inl (1, 6, .inr (.inl (giveS c.2.2.1 6 set V))))) rfl (by decide) rfl (Nat.le_of_ble_eq_true rfl) (s_give (d := d) F.2.1 (by decide) hv hV) (fun r h9 hq9 => ?_)
  obtain ⟨rfl, rfl⟩ := hq9
  refine g_return rfl rfl ?_
  exact ⟨rfl, rfl⟩
def zrF (el : Nat → Int64) (k : Nat) : Nat → Int64 := fun i => if i < k then Int64.ofNat 0 else el i
theorem zrF_0 (el : Nat → Int64) : zrF el 0 = el := funext fun i => if_neg (Nat.not_lt_zero i)
theorem zrF_s (el : Nat → Int64) (k : Nat) : vp_updL (zrF el k) k (Int64.ofNat 0) = zrF el (k + 1) := funext fun i => by
  unfold vp_updL zrF
  by_cases h : i = k
  · rw [if_pos h, if_pos (show i < k + 1 by omega)]
  · rw [if_neg h]
    by_cases h2 : i < k
    · rw [if_pos h2, if_pos (show i < k + 1 by omega)]
    · rw [if_neg h2, if_neg (show ¬ i < k + 1 by omega)]
theorem s_empty_go {d : Nat} {h : sHp} {q len : Nat} {el : Nat → Int64} (hq : h[q]? = some (.inl (1, len, .inr (.inl el)))) (hl : len ≤ 100) : ∀ (N k : Nat), k ≤ len → len - k < N → sGo none 20 d 2 [some (.ref q), some (.int (Int32.ofNat k))] [] (h.set q (.inl (1, len, .inr (.inl (zrF el k))))) (fun r h' => r = none ∧ h' = h.set q (.inl (1, len, .inr (.inl (zrF el len))))) := by
  have el' := ofN_toInt (n := len) (by omega)
  intro N
  induction N with
  | zero => intro k _ hl; omega
  | succ N ih =>
    intro k hk hl'
    have ek := ofN_toInt (n := k) (by omega)
    have hq' : (h.set q (.inl (1, len, .inr (.inl (zrF el k)))))[q]? = some (.inl (1, len, .inr (.inl (zrF el k)))) := s_set_eq hq
    refine g_iload_n (i := 1) rfl rfl ?_
    refine g_aload_n (i := 0) rfl rfl ?_
    refine g_alen rfl hq' (by decide) ?_
    refine g_icmp_ge 18 rfl rfl (fun hc => ?_) (fun hc => ?_)
    · skip
      rw [i_le, el', ek] at hc
      have hkl : k = len := by omega
      subst hkl
      refine g_return rfl rfl ?_
      exact ⟨rfl, rfl⟩
    · skip
      rw [i_le, el', ek] at hc
      refine g_aload_n (i := 0) rfl rfl ?_
      refine g_iload_n (i := 1) rfl rfl ?_
      refine g_lconst (n := 0) rfl ?_
      refine g_lastore (h1 := h.set q (.inl (1, len, .inr (.inl (zrF el (k + 1)))))) rfl hq' (i_in (by omega) (by omega)) (by rw [i_nat ek, List.set_set]; exact congrArg (fun e => h.set q (.inl (1, len, .inr (.inl e)))) (zrF_s el k)) ?_
      refine g_iinc (i := 1) (L1 := [some (.ref q), some (.int ((Int32.ofNat k) + Int32.ofInt 1))]) rfl rfl rfl ?_
      rw [ofN_add (by omega)]
      refine g_goto 2 rfl rfl ?_
      exact ih (k + 1) (by omega) (by omega)
theorem s_empty {d : Nat} {h : sHp} {q len : Nat} {el : Nat → Int64} (hq : h[q]? = some (.inl (1, len, .inr (.inl el)))) (hl : len ≤ 100) : sDo (d + 1) 20 [.ref q] h (fun r h' => r = none ∧ h' = h.set q (.inl (1, len, .inr (.inl (zrF el len))))) := by
  refine sDo_of (d := d) (nL := 2) (L := [some (.ref q), none]) rfl rfl ?_
  refine g_iconst (n := 0) rfl ?_
  refine g_istore_n (i := 1) (L1 := [some (.ref q), some (.int (Int32.ofInt 0))]) rfl (Nat.le_of_ble_eq_true rfl) rfl ?_
  have h0 := s_empty_go (d := d) hq hl (len + 1) 0 (Nat.zero_le _) (by omega)
  rw [zrF_0, s_set_self hq] at h0
  exact h0
def fcS (w : Int32) : Nat → Int64
  | 0 => Int64.ofNat 0
  | r + 1 => fcS w r ||| (Int64.ofNat 1 <<< ((Int32.ofNat r * w).toInt64 &&& 63))
def szI (w hh : Int32) (I : Nat → Int32) : Nat → Int32 := upd (upd (upd (upd I 0 w) 1 hh) 8 (Int32.ofInt (-1))) 9 (Int32.ofInt (-1))
def szG (w hh : Int32) (G : Nat → Int64) : Nat → Int64 := vp_updL (vp_updL (vp_updL (vp_updL (vp_updL G 2 (lowS (w * hh))) 3 (fcS w hh.toInt.toNat)) 4 (fcS w hh.toInt.toNat <<< ((w - Int32.ofInt 1).toInt64 &&& 63))) 5 (lowS w)) 6 (lowS w <<< ((w * (hh - Int32.ofInt 1)).toInt64 &&& 63))
def cfSize (w hh : Int32) (c : CF) : CF := (szI w hh c.1, szG w hh c.2.1, vp_updL (zrF c.2.2.1 6) 0 (lowS (w * hh)), c.2.2.2.1, c.2.2.2.2.1, c.2.2.2.2.2.1, vp_updL (zrF c.2.2.2.2.2.2 7) 6 (lowS (w * hh)))
theorem s_resize_go {d : Nat} {h : sHp} {p : Nat} {I : Nat → Int32} {G : Nat → Int64} {w hh : Int32} {Q : Option Value → sHp → Prop} (a0 : ∃ x, h[p]? = some x) (w0 : I 0 = w) (w1 : I 1 = hh) (h0 : 0 ≤ hh.toInt) (h8 : hh.toInt ≤ 8) (hQ : ∀ x : Int32, sGo none 17 d 64 [some (.ref p), some (.int w), some (.int hh), some (.int x)] [] (h.set p (fO p I (vp_updL G 3 (fcS w hh.toInt.toNat)))) Q) : ∀ (N k : Nat), k ≤ hh.toInt.toNat → hh.toInt.toNat - k < N → sGo none 17 d 33 [some (.ref p), some (.int w), some (.int hh), some (.int (Int32.ofNat k))] [] (h.set p (fO p I (vp_updL G 3 (fcS w k)))) Q := by
  obtain ⟨x0, hx0⟩ := a0
  intro N
  induction N with
  | zero => intro k _ hl; omega
  | succ N ih =>
    intro k hk hl'
    have ek := ofN_toInt (n := k) (by omega)
    have a0' : (h.set p (fO p I (vp_updL G 3 (fcS w k))))[p]? = some (fO p I (vp_updL G 3 (fcS w k))) := s_set_eq hx0
    refine g_iload_n (i := 3) rfl rfl ?_
    refine g_aload_n (i := 0) rfl rfl ?_
    refine g_getfield (v := .int (I 1)) rfl a0' (by decide) rfl ?_
    refine g_icmp_ge 64 rfl rfl (fun hc => ?_) (fun hc => ?_)
    · skip
      rw [w1, i_le, ek] at hc
      have hkl : k = hh.toInt.toNat := by omega
      rw [hkl]
      exact hQ _
    · skip
      rw [w1, i_le, ek] at hc
      refine g_aload_n (i := 0) rfl rfl ?_
      refine g_dup rfl rfl ?_
      refine g_getfield (v := .long ((vp_updL G 3 (fcS w k)) 3)) rfl a0' (by decide) rfl ?_
      refine g_lconst (n := 1) rfl ?_
      refine g_iload_n (i := 3) rfl rfl ?_
      refine g_aload_n (i := 0) rfl rfl ?_
      refine g_getfield (v := .int (I 0)) rfl a0' (by decide) rfl ?_
      refine g_imul rfl ?_
      refine g_lshl rfl ?_
      refine g_lor rfl ?_
      rw [w0]
      refine g_putfield (h1 := h.set p (fO p I (vp_updL G 3 (fcS w (k + 1))))) rfl a0' (by decide) (Nat.le_of_ble_eq_true rfl) rfl (List.set_set ..) ?_
      refine g_iinc (i := 3) (L1 := [some (.ref p), some (.int w), some (.int hh), some (.int ((Int32.ofNat k) + Int32.ofInt 1))]) rfl rfl rfl ?_
      rw [ofN_add (by omega)]
      refine g_goto 33 rfl rfl ?_
      exact ih (k + 1) (by omega) (by omega)
theorem s_resize {d : Nat} {h : sHp} {p : Nat} {c : CF} {w hh : Int32} (F : FC h p c) (h0 : 0 ≤ hh.toInt) (h8 : hh.toInt ≤ 8) : sDo (d + 2) 17 [.ref p, .int w, .int hh] h (fun r h' => r = none ∧ FC h' p (cfSize w hh c) ∧ fE p h h') := by
  obtain ⟨I, G, so, sh, wo, fo, ow⟩ := c
  have a0 : h[p]? = some (fO p I G) := F.1
  have sS : ∀ I G I' G', (h.set p (fO p I G)).set p (fO p I' G') = h.set p (fO p I' G') := fun _ _ _ _ => List.set_set ..
  have at_ : ∀ I G, (h.set p (fO p I G))[p]? = some (fO p I G) := fun _ _ => s_set_eq a0
  refine sDo_of (d := d + 1) (nL := 4) (L := [some (.ref p), some (.int w), some (.int hh), none]) rfl rfl ?_
  refine g_aload_n (i := 0) rfl rfl ?_
  refine g_iload_n (i := 1) rfl rfl ?_
  refine g_putfield (h1 := h.set p (fO p (upd I 0 w) G)) rfl a0 (by decide) (Nat.le_of_ble_eq_true rfl) rfl rfl ?_
  refine g_aload_n (i := 0) rfl rfl ?_
  refine g_iload_n (i := 2) rfl rfl ?_
  refine g_putfield (h1 := h.set p (fO p (upd (upd I 0 w) 1 hh) G)) rfl (at_ _ _) (by decide) (Nat.le_of_ble_eq_true rfl) rfl (List.set_set ..) ?_
  refine g_aload_n (i := 0) rfl rfl ?_
  refine g_aload_n (i := 0) rfl rfl ?_
  refine g_getfield (v := .int ((upd (upd I 0 w) 1 hh) 0)) rfl (at_ _ _) (by decide) rfl ?_
  refine g_aload_n (i := 0) rfl rfl ?_
  refine g_getfield (v := .int ((upd (upd I 0 w) 1 hh) 1)) rfl (at_ _ _) (by decide) rfl ?_
  refine g_imul rfl ?_
  refine g_static1 (Qc := fun r h' => h' = h.set p (fO p (upd (upd I 0 w) 1 hh) G) ∧ r = some (.long (lowS (w * hh)))) rfl (by decide) rfl (Nat.le_of_ble_eq_true rfl) (sDo_up (d := 1) (by omega) (s_lowest (d := 0))) (fun r h9 hq9 => ?_)
  obtain ⟨rfl, rfl⟩ := hq9
  refine g_putfield (h1 := h.set p (fO p (upd (upd I 0 w) 1 hh) (vp_updL G 2 (lowS (w * hh))))) rfl (at_ _ _) (by decide) (Nat.le_of_ble_eq_true rfl) rfl (List.set_set ..) ?_
  refine g_aload_n (i := 0) rfl rfl ?_
  refine g_lconst (n := 0) rfl ?_
  refine g_putfield (h1 := h.set p (fO p (upd (upd I 0 w) 1 hh) (vp_updL (vp_updL G 2 (lowS (w * hh))) 3 (Int64.ofNat 0)))) rfl (at_ _ _) (by decide) (Nat.le_of_ble_eq_true rfl) rfl (List.set_set ..) ?_
  refine g_iconst (n := 0) rfl ?_
  refine g_istore_n (i := 3) (L1 := [some (.ref p), some (.int w), some (.int hh), some (.int (Int32.ofInt 0))]) rfl (Nat.le_of_ble_eq_true rfl) rfl ?_
  have key := s_resize_go (d := d + 1) (p := p) (I := (upd (upd I 0 w) 1 hh)) (G := (vp_updL G 2 (lowS (w * hh)))) (w := w) (hh := hh) (Q := fun r h' => r = none ∧ FC h' p (cfSize w hh (I, G, so, sh, wo, fo, ow)) ∧ fE p h h') ⟨_, a0⟩ rfl rfl h0 h8 (fun x => ?_) (hh.toInt.toNat + 1) 0 (Nat.zero_le _) (by omega)
  · exact key
  · skip
    refine g_aload_n (i := 0) rfl rfl ?_
    refine g_aload_n (i := 0) rfl rfl ?_
    refine g_getfield (v := .long ((vp_updL (vp_updL G 2 (lowS (w * hh))) 3 (fcS w hh.toInt.toNat)) 3)) rfl (at_ _ _) (by decide) rfl ?_
    refine g_aload_n (i := 0) rfl rfl ?_
    refine g_getfield (v := .int ((upd (upd I 0 w) 1 hh) 0)) rfl (at_ _ _) (by decide) rfl ?_
    refine g_iconst (n := 1) rfl ?_
    refine g_isub rfl ?_
    refine g_lshl rfl ?_
    refine g_putfield (h1 := h.set p (fO p (upd (upd I 0 w) 1 hh) (vp_updL (vp_updL (vp_updL G 2 (lowS (w * hh))) 3 (fcS w hh.toInt.toNat)) 4 (fcS w hh.toInt.toNat <<< ((w - Int32.ofInt 1).toInt64 &&& 63))))) rfl (at_ _ _) (by decide) (Nat.le_of_ble_eq_true rfl) rfl (List.set_set ..) ?_
    refine g_aload_n (i := 0) rfl rfl ?_
    refine g_aload_n (i := 0) rfl rfl ?_
    refine g_getfield (v := .int ((upd (upd I 0 w) 1 hh) 0)) rfl (at_ _ _) (by decide) rfl ?_
    refine g_static1 (Qc := fun r h' => h' = h.set p (fO p (upd (upd I 0 w) 1 hh) (vp_updL (vp_updL (vp_updL G 2 (lowS (w * hh))) 3 (fcS w hh.toInt.toNat)) 4 (fcS w hh.toInt.toNat <<< ((w - Int32.ofInt 1).toInt64 &&& 63)))) ∧ r = some (.long (lowS w))) rfl (by decide) rfl (Nat.le_of_ble_eq_true rfl) (sDo_up (d := 1) (by omega) (s_lowest (d := 0))) (fun r h9 hq9 => ?_)
    obtain ⟨rfl, rfl⟩ := hq9
    refine g_putfield (h1 := h.set p (fO p (upd (upd I 0 w) 1 hh) (vp_updL (vp_updL (vp_updL (vp_updL G 2 (lowS (w * hh))) 3 (fcS w hh.toInt.toNat)) 4 (fcS w hh.toInt.toNat <<< ((w - Int32.ofInt 1).toInt64 &&& 63))) 5 (lowS w)))) rfl (at_ _ _) (by decide) (Nat.le_of_ble_eq_true rfl) rfl (List.set_set ..) ?_
    refine g_aload_n (i := 0) rfl rfl ?_
    refine g_aload_n (i := 0) rfl rfl ?_
    refine g_getfield (v := .long ((vp_updL (vp_updL (vp_updL (vp_updL G 2 (lowS (w * hh))) 3 (fcS w hh.toInt.toNat)) 4 (fcS w hh.toInt.toNat <<< ((w - Int32.ofInt 1).toInt64 &&& 63))) 5 (lowS w)) 5)) rfl (at_ _ _) (by decide) rfl ?_
    refine g_aload_n (i := 0) rfl rfl ?_
    refine g_getfield (v := .int ((upd (upd I 0 w) 1 hh) 0)) rfl (at_ _ _) (by decide) rfl ?_
    refine g_aload_n (i := 0) rfl rfl ?_
    refine g_getfield (v := .int ((upd (upd I 0 w) 1 hh) 1)) rfl (at_ _ _) (by decide) rfl ?_
    refine g_iconst (n := 1) rfl ?_
    refine g_isub rfl ?_
    refine g_imul rfl ?_
    refine g_lshl rfl ?_
    refine g_putfield (h1 := h.set p (fO p (upd (upd I 0 w) 1 hh) (vp_updL (vp_updL (vp_updL (vp_updL (vp_updL G 2 (lowS (w * hh))) 3 (fcS w hh.toInt.toNat)) 4 (fcS w hh.toInt.toNat <<< ((w - Int32.ofInt 1).toInt64 &&& 63))) 5 (lowS w)) 6 (lowS w <<< ((w * (hh - Int32.ofInt 1)).toInt64 &&& 63))))) rfl (at_ _ _) (by decide) (Nat.le_of_ble_eq_true rfl) rfl (List.set_set ..) ?_
    refine g_aload_n (i := 0) rfl rfl ?_
    refine g_iconst (n := (-1)) rfl ?_
    refine g_putfield (h1 := h.set p (fO p (upd (upd (upd I 0 w) 1 hh) 8 (Int32.ofInt (-1))) (vp_updL (vp_updL (vp_updL (vp_updL (vp_updL G 2 (lowS (w * hh))) 3 (fcS w hh.toInt.toNat)) 4 (fcS w hh.toInt.toNat <<< ((w - Int32.ofInt 1).toInt64 &&& 63))) 5 (lowS w)) 6 (lowS w <<< ((w * (hh - Int32.ofInt 1)).toInt64 &&& 63))))) rfl (at_ _ _) (by decide) (Nat.le_of_ble_eq_true rfl) rfl (List.set_set ..) ?_
    refine g_aload_n (i := 0) rfl rfl ?_
    refine g_iconst (n := (-1)) rfl ?_
    refine g_putfield (h1 := h.set p (fO p (upd (upd (upd (upd I 0 w) 1 hh) 8 (Int32.ofInt (-1))) 9 (Int32.ofInt (-1))) (vp_updL (vp_updL (vp_updL (vp_updL (vp_updL G 2 (lowS (w * hh))) 3 (fcS w hh.toInt.toNat)) 4 (fcS w hh.toInt.toNat <<< ((w - Int32.ofInt 1).toInt64 &&& 63))) 5 (lowS w)) 6 (lowS w <<< ((w * (hh - Int32.ofInt 1)).toInt64 &&& 63))))) rfl (at_ _ _) (by decide) (Nat.le_of_ble_eq_true rfl) rfl (List.set_set ..) ?_
    have F1 : FC (h.set p (fO p (upd (upd (upd (upd I 0 w) 1 hh) 8 (Int32.ofInt (-1))) 9 (Int32.ofInt (-1))) (vp_updL (vp_updL (vp_updL (vp_updL (vp_updL G 2 (lowS (w * hh))) 3 (fcS w hh.toInt.toNat)) 4 (fcS w hh.toInt.toNat <<< ((w - Int32.ofInt 1).toInt64 &&& 63))) 5 (lowS w)) 6 (lowS w <<< ((w * (hh - Int32.ofInt 1)).toInt64 &&& 63))))) p (szI w hh I, szG w hh G, so, sh, wo, fo, ow) := FC_0 F
    have E1 : fE p h (h.set p (fO p (upd (upd (upd (upd I 0 w) 1 hh) 8 (Int32.ofInt (-1))) 9 (Int32.ofInt (-1))) (vp_updL (vp_updL (vp_updL (vp_updL (vp_updL G 2 (lowS (w * hh))) 3 (fcS w hh.toInt.toNat)) 4 (fcS w hh.toInt.toNat <<< ((w - Int32.ofInt 1).toInt64 &&& 63))) 5 (lowS w)) 6 (lowS w <<< ((w * (hh - Int32.ofInt 1)).toInt64 &&& 63))))) := fE_set fE_rfl (by omega) (by omega)
    generalize h.set p (fO p (upd (upd (upd (upd I 0 w) 1 hh) 8 (Int32.ofInt (-1))) 9 (Int32.ofInt (-1))) (vp_updL (vp_updL (vp_updL (vp_updL (vp_updL G 2 (lowS (w * hh))) 3 (fcS w hh.toInt.toNat)) 4 (fcS w hh.toInt.toNat <<< ((w - Int32.ofInt 1).toInt64 &&& 63))) 5 (lowS w)) 6 (lowS w <<< ((w * (hh - Int32.ofInt 1)).toInt64 &&& 63)))) = h1 at F1 E1
    refine g_aload_n (i := 0) rfl rfl ?_
    refine g_getfield (v := .ref (p + 1)) rfl F1.1 (by decide) rfl ?_
    refine g_static1 (Qc := fun r h' => r = none ∧ h' = h1.set (p + 1) (.inl (1, 6, .inr (.inl (zrF so 6))))) rfl (by decide) rfl (Nat.le_of_ble_eq_true rfl) (sDo_up (d := 1) (by omega) (s_empty (d := 0) F1.2.1 (by decide))) (fun r h9 hq9 => ?_)
    obtain ⟨rfl, rfl⟩ := hq9
    have F2 := FC_1 (so := zrF so 6) F1
    refine g_aload_n (i := 0) rfl rfl ?_
    refine g_getfield (v := .ref (p + 1)) rfl F2.1 (by decide) rfl ?_
    refine g_iconst (n := 0) rfl ?_
    refine g_aload_n (i := 0) rfl rfl ?_
    refine g_getfield (v := .long ((szG w hh G) 2)) rfl F2.1 (by decide) rfl ?_
    refine g_lastore rfl F2.2.1 (i_in (by decide) (by decide)) rfl ?_
    have F3 := FC_1 (so := vp_updL (zrF so 6) 0 (lowS (w * hh))) F2
    have E3 : fE p h ((h1.set (p + 1) (.inl (1, 6, .inr (.inl (zrF so 6))))).set (p + 1) (.inl (1, 6, .inr (.inl (vp_updL (zrF so 6) 0 (lowS (w * hh))))))) := fE_set (fE_set E1 (by omega) (by omega)) (by omega) (by omega)
    show sGo none 17 (d + 1) 137 _ [] ((h1.set (p + 1) (.inl (1, 6, .inr (.inl (zrF so 6))))).set (p + 1) (.inl (1, 6, .inr (.inl (vp_updL (zrF so 6) 0 (lowS (w * hh))))))) _
    generalize (h1.set (p + 1) (.inl (1, 6, .inr (.inl (zrF so 6))))).set (p + 1) (.inl (1, 6, .inr (.inl (vp_updL (zrF so 6) 0 (lowS (w * hh)))))) = h2 at F3 E3
    refine g_aload_n (i := 0) rfl rfl ?_
    refine g_getfield (v := .ref (p + 10)) rfl F3.1 (by decide) rfl ?_
    refine g_static1 (Qc := fun r h' => r = none ∧ h' = h2.set (p + 10) (.inl (1, 7, .inr (.inl (zrF ow 7))))) rfl (by decide) rfl (Nat.le_of_ble_eq_true rfl) (sDo_up (d := 1) (by omega) (s_empty (d := 0) F3.2.2.2.2.2.2 (by decide))) (fun r h9 hq9 => ?_)
    obtain ⟨rfl, rfl⟩ := hq9
    have F4 := FC_10 (ow := zrF ow 7) F3
    refine g_aload_n (i := 0) rfl rfl ?_
    refine g_getfield (v := .ref (p + 10)) rfl F4.1 (by decide) rfl ?_
    refine g_bipush (n := 6) rfl ?_
    refine g_aload_n (i := 0) rfl rfl ?_
    refine g_getfield (v := .long ((szG w hh G) 2)) rfl F4.1 (by decide) rfl ?_
    refine g_lastore rfl F4.2.2.2.2.2.2 (i_in (by decide) (by decide)) rfl ?_
    refine g_return rfl rfl ?_
    exact ⟨rfl, FC_10 (ow := vp_updL (zrF ow 7) 6 (lowS (w * hh))) F4, fE_set (fE_set E3 (by omega) (by omega)) (by omega) (by omega)⟩
