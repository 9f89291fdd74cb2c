/-! ===== by hand: keeps, all ===== -/
theorem s_set_self {h : sHp} {p : Nat} {c : va_E} (hc : h[p]? = some c) : h.set p c = h := by
  apply List.ext_getElem?
  intro i
  by_cases e : p = i
  · subst e
    rw [s_set_eq hc, hc]
  · rw [s_set_ne e]
def kb (f g : Nat → Int32) (r k : Nat) : Nat → Int32 := fun i => if i < k then g (r + i) else f i
def ks (f g : Nat → Int32) (r k : Nat) : Nat → Int32 := fun j => if r ≤ j ∧ j < r + k then f (j - r) else g j
theorem kb_0 (f g : Nat → Int32) (r : Nat) : kb f g r 0 = f := funext fun i => by
  unfold kb
  rw [if_neg (by omega)]
theorem ks_0 (f g : Nat → Int32) (r : Nat) : ks f g r 0 = g := funext fun i => by
  unfold ks
  rw [if_neg (by omega)]
theorem kb_s (f g : Nat → Int32) (r k : Nat) : upd (kb f g r k) k (g (r + k)) = kb f g r (k + 1) := funext fun i => by
  unfold upd kb
  by_cases e : i = k
  · subst e
    rw [if_pos rfl, if_pos (by omega)]
  · rw [if_neg e]
    by_cases e2 : i < k
    · rw [if_pos e2, if_pos (by omega)]
    · rw [if_neg e2, if_neg (by omega)]
theorem ks_s (f g : Nat → Int32) (r k : Nat) : upd (ks f g r k) (r + k) (f k) = ks f g r (k + 1) := funext fun i => by
  unfold upd ks
  by_cases e : i = r + k
  · subst e
    rw [if_pos rfl, if_pos (by omega), Nat.add_sub_cancel_left]
  · rw [if_neg e]
    by_cases e2 : r ≤ i ∧ i < r + k
    · rw [if_pos e2, if_pos (by omega)]
    · rw [if_neg e2, if_neg (by omega)]
theorem i_nat {x : Int32} {k : Nat} (h : x.toInt = k) : x.toNatClampNeg = k := by
  show x.toInt.toNat = k
  omega
section KP
variable {d : Nat} {h : sHp} {K1 K2 n1 r n : Nat} {f g : Nat → Int32} {nn fr b : Int32} {Q : Option Value → sHp → Prop}
theorem s_bk_go (hK : K1 ≠ K2) (ha : h[K1]? = some (.inl (0, n1, .inl f))) (hb : h[K2]? = some (.inl (0, 180, .inl g))) (en : nn.toInt = n) (er : fr.toInt = r) (hn : n ≤ n1) (hr : r + n ≤ 180) (b0 : ¬ b = 0) (hQ : Q (some (.int (fr + nn))) (h.set K1 (.inl (0, n1, .inl (kb f g r n))))) : ∀ (N k : Nat) (x : Int32), x.toInt = k → k ≤ n → n - k < N → sGo none 200 d 3 [some (.ref 60), some (.ref K1), some (.int nn), some (.ref K2), some (.int fr), some (.int b), some (.int x)] [] (h.set K1 (.inl (0, n1, .inl (kb f g r k)))) Q := by
  intro N
  induction N with
  | zero => intro k x _ _ hl; omega
  | succ N ih =>
    intro k x ex hk hl
    have e1 : (Int32.ofInt 1).toInt = 1 := rfl
    refine g_iload (i := 6) rfl rfl ?_
    refine g_iload_n (i := 2) rfl rfl ?_
    refine g_icmp_ge 45 rfl rfl (fun hc => ?_) (fun hc => ?_)
    · skip
      rw [i_le] at hc
      have hkn : k = n := by omega
      subst hkn
      refine g_iload (i := 4) rfl rfl ?_
      refine g_iload_n (i := 2) rfl rfl ?_
      refine g_iadd rfl ?_
      refine g_ireturn (ty := .int) rfl rfl rfl ?_
      exact hQ
    · skip
      rw [i_le] at hc
      have hx1 : (x + Int32.ofInt 1).toInt = ((k + 1 : Nat) : Int) := by rw [i_add (by omega) (by omega)]; omega
      have hfx : (fr + x).toInt = ((r + k : Nat) : Int) := by rw [i_add (by omega) (by omega)]; omega
      refine g_iload (i := 5) rfl rfl ?_
      refine g_if_eq 28 rfl rfl (fun hz => ?_) (fun hz => ?_)
      · skip
        exact absurd hz b0
      · skip
        refine g_aload_n (i := 1) rfl rfl ?_
        refine g_iload (i := 6) rfl rfl ?_
        refine g_aload_n (i := 3) rfl rfl ?_
        refine g_iload (i := 4) rfl rfl ?_
        refine g_iload (i := 6) rfl rfl ?_
        refine g_iadd rfl ?_
        refine g_iaload (n := 180) (f := g) rfl (by rw [s_set_ne hK]; exact hb) (i_in (by omega) (by omega)) ?_
        rw [i_nat hfx]
        refine g_iastore (h1 := h.set K1 (.inl (0, n1, .inl (kb f g r (k + 1))))) rfl (s_set_eq ha) (i_in (by omega) (by omega)) (by rw [i_nat ex, List.set_set, kb_s]) ?_
        refine g_goto 39 rfl rfl ?_
        refine g_iinc (i := 6) (L1 := [some (.ref 60), some (.ref K1), some (.int nn), some (.ref K2), some (.int fr), some (.int b), some (.int (x + Int32.ofInt 1))]) rfl rfl rfl ?_
        refine g_goto 3 rfl rfl ?_
        exact ih _ _ hx1 (by omega) (by omega)
theorem s_bk (hK : K1 ≠ K2) (ha : h[K1]? = some (.inl (0, n1, .inl f))) (hb : h[K2]? = some (.inl (0, 180, .inl g))) (en : nn.toInt = n) (er : fr.toInt = r) (hn : n ≤ n1) (hr : r + n ≤ 180) (b0 : ¬ b = 0) (hQ : Q (some (.int (fr + nn))) (h.set K1 (.inl (0, n1, .inl (kb f g r n))))) : sDo (d + 1) 200 [.ref 60, .ref K1, .int nn, .ref K2, .int fr, .int b] h Q := by
  refine sDo_of (d := d) (nL := 7) (L := [some (.ref 60), some (.ref K1), some (.int nn), some (.ref K2), some (.int fr), some (.int b), none]) rfl rfl ?_
  refine g_iconst (n := 0) rfl ?_
  refine g_istore (i := 6) (L1 := [some (.ref 60), some (.ref K1), some (.int nn), some (.ref K2), some (.int fr), some (.int b), some (.int (Int32.ofInt 0))]) rfl (Nat.le_of_ble_eq_true rfl) rfl ?_
  have h0 := s_bk_go (d := d) hK ha hb en er hn hr b0 hQ (n + 1) 0 (Int32.ofInt 0) rfl (by omega) (by omega)
  rw [kb_0, s_set_self ha] at h0
  exact h0
theorem s_sv_go (hK : K1 ≠ K2) (ha : h[K1]? = some (.inl (0, n1, .inl f))) (hb : h[K2]? = some (.inl (0, 180, .inl g))) (en : nn.toInt = n) (er : fr.toInt = r) (hn : n ≤ n1) (hr : r + n ≤ 180) (b0 : b = 0) (hQ : Q (some (.int (fr + nn))) (h.set K2 (.inl (0, 180, .inl (ks f g r n))))) : ∀ (N k : Nat) (x : Int32), x.toInt = k → k ≤ n → n - k < N → sGo none 200 d 3 [some (.ref 60), some (.ref K1), some (.int nn), some (.ref K2), some (.int fr), some (.int b), some (.int x)] [] (h.set K2 (.inl (0, 180, .inl (ks f g r k)))) Q := by
  intro N
  induction N with
  | zero => intro k x _ _ hl; omega
  | succ N ih =>
    intro k x ex hk hl
    have e1 : (Int32.ofInt 1).toInt = 1 := rfl
    refine g_iload (i := 6) rfl rfl ?_
    refine g_iload_n (i := 2) rfl rfl ?_
    refine g_icmp_ge 45 rfl rfl (fun hc => ?_) (fun hc => ?_)
    · skip
      rw [i_le] at hc
      have hkn : k = n := by omega
      subst hkn
      refine g_iload (i := 4) rfl rfl ?_
      refine g_iload_n (i := 2) rfl rfl ?_
      refine g_iadd rfl ?_
      refine g_ireturn (ty := .int) rfl rfl rfl ?_
      exact hQ
    · skip
      rw [i_le] at hc
      have hx1 : (x + Int32.ofInt 1).toInt = ((k + 1 : Nat) : Int) := by rw [i_add (by omega) (by omega)]; omega
      have hfx : (fr + x).toInt = ((r + k : Nat) : Int) := by rw [i_add (by omega) (by omega)]; omega
      refine g_iload (i := 5) rfl rfl ?_
      refine g_if_eq 28 rfl rfl (fun hz => ?_) (fun hz => ?_)
      · skip
        refine g_aload_n (i := 3) rfl rfl ?_
        refine g_iload (i := 4) rfl rfl ?_
        refine g_iload (i := 6) rfl rfl ?_
        refine g_iadd rfl ?_
        refine g_aload_n (i := 1) rfl rfl ?_
        refine g_iload (i := 6) rfl rfl ?_
        refine g_iaload (n := n1) (f := f) rfl (by rw [s_set_ne (Ne.symm hK)]; exact ha) (i_in (by omega) (by omega)) ?_
        rw [i_nat ex]
        refine g_iastore (h1 := h.set K2 (.inl (0, 180, .inl (ks f g r (k + 1))))) rfl (s_set_eq hb) (i_in (by omega) (by omega)) (by rw [i_nat hfx, List.set_set, ks_s]) ?_
        refine g_iinc (i := 6) (L1 := [some (.ref 60), some (.ref K1), some (.int nn), some (.ref K2), some (.int fr), some (.int b), some (.int (x + Int32.ofInt 1))]) rfl rfl rfl ?_
        refine g_goto 3 rfl rfl ?_
        exact ih _ _ hx1 (by omega) (by omega)
      · skip
        exact absurd b0 hz
theorem s_sv (hK : K1 ≠ K2) (ha : h[K1]? = some (.inl (0, n1, .inl f))) (hb : h[K2]? = some (.inl (0, 180, .inl g))) (en : nn.toInt = n) (er : fr.toInt = r) (hn : n ≤ n1) (hr : r + n ≤ 180) (b0 : b = 0) (hQ : Q (some (.int (fr + nn))) (h.set K2 (.inl (0, 180, .inl (ks f g r n))))) : sDo (d + 1) 200 [.ref 60, .ref K1, .int nn, .ref K2, .int fr, .int b] h Q := by
  refine sDo_of (d := d) (nL := 7) (L := [some (.ref 60), some (.ref K1), some (.int nn), some (.ref K2), some (.int fr), some (.int b), none]) rfl rfl ?_
  refine g_iconst (n := 0) rfl ?_
  refine g_istore (i := 6) (L1 := [some (.ref 60), some (.ref K1), some (.int nn), some (.ref K2), some (.int fr), some (.int b), some (.int (Int32.ofInt 0))]) rfl (Nat.le_of_ble_eq_true rfl) rfl ?_
  have h0 := s_sv_go (d := d) hK ha hb en er hn hr b0 hQ (n + 1) 0 (Int32.ofInt 0) rfl (by omega) (by omega)
  rw [ks_0, s_set_self hb] at h0
  exact h0
end KP
theorem g_ialv {k d pc : Nat} {L : sLo} {st : List Value} {h : sHp} {Q : Option Value → sHp → Prop} {a n : Nat} {i v : Int32} {f : Nat → Int32} (hF : sFk k pc = some (.iaload)) (ha : h[a]? = some (.inl (0, n, .inl f))) (hi : ¬ (i < 0 ∨ n ≤ i.toNatClampNeg)) (hv : f i.toNatClampNeg = v) (g : sGo none k d (pc + 1) L (.int v :: st) h Q) : sGo none k d pc L (.int i :: .ref a :: st) h Q := g_iaload hF ha hi (by rw [hv]; exact g)
/-- the cells that an image keeps -/
def bBk (h : sHp) (K : Nat) (fs : List Value) (A B C D E g : Nat → Int32) : Prop := h[60]? = some (.inr (12, fs)) ∧ h[62]? = some (.inl (0, 64, .inl A)) ∧ h[63]? = some (.inl (0, 64, .inl B)) ∧ h[64]? = some (.inl (0, 5, .inl C)) ∧ h[65]? = some (.inl (0, 5, .inl D)) ∧ h[66]? = some (.inl (0, 30, .inl E)) ∧ h[K]? = some (.inl (0, 180, .inl g)) ∧ 66 < K ∧ fs[9]? = some (.ref 62) ∧ fs[10]? = some (.ref 63) ∧ fs[11]? = some (.ref 64) ∧ fs[12]? = some (.ref 65) ∧ fs[13]? = some (.ref 66) ∧ 13 < fs.length
def fs7 (fs : List Value) (g : Nat → Int32) : List Value := ((((((fs.set 0 (.int (g 168))).set 1 (.int (g 169))).set 2 (.int (g 170))).set 3 (.int (g 171))).set 4 (.int (g 172))).set 5 (.int (g 173))).set 6 (.int (g 174))
def hB5 (h : sHp) (A B C D E g : Nat → Int32) : sHp := ((((h.set 62 (.inl (0, 64, .inl (kb A g 0 64)))).set 63 (.inl (0, 64, .inl (kb B g 64 64)))).set 64 (.inl (0, 5, .inl (kb C g 128 5)))).set 65 (.inl (0, 5, .inl (kb D g 133 5)))).set 66 (.inl (0, 30, .inl (kb E g 138 30)))
theorem fs7_get {fs : List Value} {g : Nat → Int32} {j : Nat} (hj : 7 ≤ j) : (fs7 fs g)[j]? = fs[j]? := by
  unfold fs7
  rw [List.getElem?_set_ne (by omega), List.getElem?_set_ne (by omega), List.getElem?_set_ne (by omega), List.getElem?_set_ne (by omega), List.getElem?_set_ne (by omega), List.getElem?_set_ne (by omega), List.getElem?_set_ne (by omega)]
theorem s_all_back {d : Nat} {h : sHp} {K : Nat} {fs : List Value} {A B C D E g : Nat → Int32} {b : Int32} {Q : Option Value → sHp → Prop} (b0 : ¬ b = 0) (hB : bBk h K fs A B C D E g) (hQ : Q none ((hB5 h A B C D E g).set 60 (.inr (12, fs7 fs g)))) : sDo (d + 2) 201 [.ref 60, .ref K, .int b] h Q := by
  obtain ⟨hf, hA, hB, hC, hD, hE, hg, hK, f9, f10, f11, f12, f13, hl⟩ := hB
  have n62 : (62 : Nat) ≠ K := by omega
  have n63 : (63 : Nat) ≠ K := by omega
  have n64 : (64 : Nat) ≠ K := by omega
  have n65 : (65 : Nat) ≠ K := by omega
  have n66 : (66 : Nat) ≠ K := by omega
  have n60 : (60 : Nat) ≠ K := by omega
  refine sDo_of (d := d + 1) (nL := 4) (L := [some (.ref 60), some (.ref K), some (.int b), none]) rfl rfl ?_
  have hf0 : (h : sHp)[60]? = some (.inr (12, fs)) := hf
  refine g_aload_n (i := 0) rfl rfl ?_
  refine g_aload_n (i := 0) rfl rfl ?_
  refine g_getfield (v := .ref 62) rfl hf0 (by decide) f9 ?_
  refine g_bipush (n := 64) rfl ?_
  refine g_aload_n (i := 1) rfl rfl ?_
  refine g_iconst (n := 0) rfl ?_
  refine g_iload_n (i := 2) rfl rfl ?_
  refine g_virt5 (Qc := fun r h' => r = some (.int 64) ∧ h' = ((h.set 62 (.inl (0, 64, .inl (kb A g 0 64)))) : sHp)) rfl (by decide) rfl hf0 rfl (Nat.le_of_ble_eq_true rfl) (s_bk (n := 64) (r := 0) n62 hA hg (by decide) (by decide) (by decide) (by decide) b0 ⟨by decide, rfl⟩) (fun r h9 hq9 => ?_)
  obtain ⟨rfl, rfl⟩ := hq9
  have hf1 : ((h.set 62 (.inl (0, 64, .inl (kb A g 0 64)))) : sHp)[60]? = some (.inr (12, fs)) := (by rw [s_set_ne (by decide)]; exact hf)
  refine g_istore_n (i := 3) (L1 := [some (.ref 60), some (.ref K), some (.int b), some (.int 64)]) rfl (Nat.le_of_ble_eq_true rfl) rfl ?_
  refine g_aload_n (i := 0) rfl rfl ?_
  refine g_aload_n (i := 0) rfl rfl ?_
  refine g_getfield (v := .ref 63) rfl hf1 (by decide) f10 ?_
  refine g_bipush (n := 64) rfl ?_
  refine g_aload_n (i := 1) rfl rfl ?_
  refine g_iload_n (i := 3) rfl rfl ?_
  refine g_iload_n (i := 2) rfl rfl ?_
  refine g_virt5 (Qc := fun r h' => r = some (.int 128) ∧ h' = (((h.set 62 (.inl (0, 64, .inl (kb A g 0 64)))).set 63 (.inl (0, 64, .inl (kb B g 64 64)))) : sHp)) rfl (by decide) rfl hf1 rfl (Nat.le_of_ble_eq_true rfl) (s_bk (n := 64) (r := 64) n63 (by rw [s_set_ne (by decide)]; exact hB) (by rw [s_set_ne n62]; exact hg) (by decide) (by decide) (by decide) (by decide) b0 ⟨by decide, rfl⟩) (fun r h9 hq9 => ?_)
  obtain ⟨rfl, rfl⟩ := hq9
  have hf2 : (((h.set 62 (.inl (0, 64, .inl (kb A g 0 64)))).set 63 (.inl (0, 64, .inl (kb B g 64 64)))) : sHp)[60]? = some (.inr (12, fs)) := (by rw [s_set_ne (by decide), s_set_ne (by decide)]; exact hf)
  refine g_istore_n (i := 3) (L1 := [some (.ref 60), some (.ref K), some (.int b), some (.int 128)]) rfl (Nat.le_of_ble_eq_true rfl) rfl ?_
  refine g_aload_n (i := 0) rfl rfl ?_
  refine g_aload_n (i := 0) rfl rfl ?_
  refine g_getfield (v := .ref 64) rfl hf2 (by decide) f11 ?_
  refine g_iconst (n := 5) rfl ?_
  refine g_aload_n (i := 1) rfl rfl ?_
  refine g_iload_n (i := 3) rfl rfl ?_
  refine g_iload_n (i := 2) rfl rfl ?_
  refine g_virt5 (Qc := fun r h' => r = some (.int 133) ∧ h' = ((((h.set 62 (.inl (0, 64, .inl (kb A g 0 64)))).set 63 (.inl (0, 64, .inl (kb B g 64 64)))).set 64 (.inl (0, 5, .inl (kb C g 128 5)))) : sHp)) rfl (by decide) rfl hf2 rfl (Nat.le_of_ble_eq_true rfl) (s_bk (n := 5) (r := 128) n64 (by rw [s_set_ne (by decide), s_set_ne (by decide)]; exact hC) (by rw [s_set_ne n63, s_set_ne n62]; exact hg) (by decide) (by decide) (by decide) (by decide) b0 ⟨by decide, rfl⟩) (fun r h9 hq9 => ?_)
  obtain ⟨rfl, rfl⟩ := hq9
  have hf3 : ((((h.set 62 (.inl (0, 64, .inl (kb A g 0 64)))).set 63 (.inl (0, 64, .inl (kb B g 64 64)))).set 64 (.inl (0, 5, .inl (kb C g 128 5)))) : sHp)[60]? = some (.inr (12, fs)) := (by rw [s_set_ne (by decide), s_set_ne (by decide), s_set_ne (by decide)]; exact hf)
  refine g_istore_n (i := 3) (L1 := [some (.ref 60), some (.ref K), some (.int b), some (.int 133)]) rfl (Nat.le_of_ble_eq_true rfl) rfl ?_
  refine g_aload_n (i := 0) rfl rfl ?_
  refine g_aload_n (i := 0) rfl rfl ?_
  refine g_getfield (v := .ref 65) rfl hf3 (by decide) f12 ?_
  refine g_iconst (n := 5) rfl ?_
  refine g_aload_n (i := 1) rfl rfl ?_
  refine g_iload_n (i := 3) rfl rfl ?_
  refine g_iload_n (i := 2) rfl rfl ?_
  refine g_virt5 (Qc := fun r h' => r = some (.int 138) ∧ h' = (((((h.set 62 (.inl (0, 64, .inl (kb A g 0 64)))).set 63 (.inl (0, 64, .inl (kb B g 64 64)))).set 64 (.inl (0, 5, .inl (kb C g 128 5)))).set 65 (.inl (0, 5, .inl (kb D g 133 5)))) : sHp)) rfl (by decide) rfl hf3 rfl (Nat.le_of_ble_eq_true rfl) (s_bk (n := 5) (r := 133) n65 (by rw [s_set_ne (by decide), s_set_ne (by decide), s_set_ne (by decide)]; exact hD) (by rw [s_set_ne n64, s_set_ne n63, s_set_ne n62]; exact hg) (by decide) (by decide) (by decide) (by decide) b0 ⟨by decide, rfl⟩) (fun r h9 hq9 => ?_)
  obtain ⟨rfl, rfl⟩ := hq9
  have hf4 : (((((h.set 62 (.inl (0, 64, .inl (kb A g 0 64)))).set 63 (.inl (0, 64, .inl (kb B g 64 64)))).set 64 (.inl (0, 5, .inl (kb C g 128 5)))).set 65 (.inl (0, 5, .inl (kb D g 133 5)))) : sHp)[60]? = some (.inr (12, fs)) := (by rw [s_set_ne (by decide), s_set_ne (by decide), s_set_ne (by decide), s_set_ne (by decide)]; exact hf)
  refine g_istore_n (i := 3) (L1 := [some (.ref 60), some (.ref K), some (.int b), some (.int 138)]) rfl (Nat.le_of_ble_eq_true rfl) rfl ?_
  refine g_aload_n (i := 0) rfl rfl ?_
  refine g_aload_n (i := 0) rfl rfl ?_
  refine g_getfield (v := .ref 66) rfl hf4 (by decide) f13 ?_
  refine g_bipush (n := 30) rfl ?_
  refine g_aload_n (i := 1) rfl rfl ?_
  refine g_iload_n (i := 3) rfl rfl ?_
  refine g_iload_n (i := 2) rfl rfl ?_
  refine g_virt5 (Qc := fun r h' => r = some (.int 168) ∧ h' = ((((((h.set 62 (.inl (0, 64, .inl (kb A g 0 64)))).set 63 (.inl (0, 64, .inl (kb B g 64 64)))).set 64 (.inl (0, 5, .inl (kb C g 128 5)))).set 65 (.inl (0, 5, .inl (kb D g 133 5)))).set 66 (.inl (0, 30, .inl (kb E g 138 30)))) : sHp)) rfl (by decide) rfl hf4 rfl (Nat.le_of_ble_eq_true rfl) (s_bk (n := 30) (r := 138) n66 (by rw [s_set_ne (by decide), s_set_ne (by decide), s_set_ne (by decide), s_set_ne (by decide)]; exact hE) (by rw [s_set_ne n65, s_set_ne n64, s_set_ne n63, s_set_ne n62]; exact hg) (by decide) (by decide) (by decide) (by decide) b0 ⟨by decide, rfl⟩) (fun r h9 hq9 => ?_)
  obtain ⟨rfl, rfl⟩ := hq9
  refine g_istore_n (i := 3) (L1 := [some (.ref 60), some (.ref K), some (.int b), some (.int 168)]) rfl (Nat.le_of_ble_eq_true rfl) rfl ?_
  refine g_iload_n (i := 2) rfl rfl ?_
  refine g_if_eq 137 rfl rfl (fun hc => ?_) (fun hc => ?_)
  · skip
    exact absurd hc b0
  · skip
    have hf5 : (hB5 h A B C D E g)[60]? = some (.inr (12, fs)) := by
      unfold hB5
      rw [s_set_ne (by decide), s_set_ne (by decide), s_set_ne (by decide), s_set_ne (by decide), s_set_ne (by decide)]; exact hf
    have hg5 : (hB5 h A B C D E g)[K]? = some (.inl (0, 180, .inl g)) := by
      unfold hB5
      rw [s_set_ne n66, s_set_ne n65, s_set_ne n64, s_set_ne n63, s_set_ne n62]; exact hg
    rw [show (((((h.set 62 (.inl (0, 64, .inl (kb A g 0 64)))).set 63 (.inl (0, 64, .inl (kb B g 64 64)))).set 64 (.inl (0, 5, .inl (kb C g 128 5)))).set 65 (.inl (0, 5, .inl (kb D g 133 5)))).set 66 (.inl (0, 30, .inl (kb E g 138 30)))) = hB5 h A B C D E g from rfl]
    generalize hB5 h A B C D E g = h5 at *
    refine g_aload_n (i := 0) rfl rfl ?_
    refine g_aload_n (i := 1) rfl rfl ?_
    refine g_iload_n (i := 3) rfl rfl ?_
    refine g_ialv (n := 180) (f := g) (v := g 168) rfl hg5 (i_in (by decide) (by decide)) (congrArg g (by decide)) ?_
    refine g_putfield (h1 := h5.set 60 (.inr (12, (fs.set 0 (.int (g 168)))))) rfl hf5 (by decide) (show 0 < fs.length by omega) (sTy_int (by decide +kernel) _) rfl ?_
    refine g_aload_n (i := 0) rfl rfl ?_
    refine g_aload_n (i := 1) rfl rfl ?_
    refine g_iload_n (i := 3) rfl rfl ?_
    refine g_iconst (n := 1) rfl ?_
    refine g_iadd rfl ?_
    refine g_ialv (n := 180) (f := g) (v := g 169) rfl (by rw [s_set_ne n60]; exact hg5) (i_in (by decide) (by decide)) (congrArg g (by decide)) ?_
    refine g_putfield (h1 := h5.set 60 (.inr (12, ((fs.set 0 (.int (g 168))).set 1 (.int (g 169)))))) rfl (s_set_eq hf5) (by decide) (by simp only [List.length_set]; omega) (sTy_int (by decide +kernel) _) (List.set_set ..) ?_
    refine g_aload_n (i := 0) rfl rfl ?_
    refine g_aload_n (i := 1) rfl rfl ?_
    refine g_iload_n (i := 3) rfl rfl ?_
    refine g_iconst (n := 2) rfl ?_
    refine g_iadd rfl ?_
    refine g_ialv (n := 180) (f := g) (v := g 170) rfl (by rw [s_set_ne n60]; exact hg5) (i_in (by decide) (by decide)) (congrArg g (by decide)) ?_
    refine g_putfield (h1 := h5.set 60 (.inr (12, (((fs.set 0 (.int (g 168))).set 1 (.int (g 169))).set 2 (.int (g 170)))))) rfl (s_set_eq hf5) (by decide) (by simp only [List.length_set]; omega) (sTy_int (by decide +kernel) _) (List.set_set ..) ?_
    refine g_aload_n (i := 0) rfl rfl ?_
    refine g_aload_n (i := 1) rfl rfl ?_
    refine g_iload_n (i := 3) rfl rfl ?_
    refine g_iconst (n := 3) rfl ?_
    refine g_iadd rfl ?_
    refine g_ialv (n := 180) (f := g) (v := g 171) rfl (by rw [s_set_ne n60]; exact hg5) (i_in (by decide) (by decide)) (congrArg g (by decide)) ?_
    refine g_putfield (h1 := h5.set 60 (.inr (12, ((((fs.set 0 (.int (g 168))).set 1 (.int (g 169))).set 2 (.int (g 170))).set 3 (.int (g 171)))))) rfl (s_set_eq hf5) (by decide) (by simp only [List.length_set]; omega) (sTy_int (by decide +kernel) _) (List.set_set ..) ?_
    refine g_aload_n (i := 0) rfl rfl ?_
    refine g_aload_n (i := 1) rfl rfl ?_
    refine g_iload_n (i := 3) rfl rfl ?_
    refine g_iconst (n := 4) rfl ?_
    refine g_iadd rfl ?_
    refine g_ialv (n := 180) (f := g) (v := g 172) rfl (by rw [s_set_ne n60]; exact hg5) (i_in (by decide) (by decide)) (congrArg g (by decide)) ?_
    refine g_putfield (h1 := h5.set 60 (.inr (12, (((((fs.set 0 (.int (g 168))).set 1 (.int (g 169))).set 2 (.int (g 170))).set 3 (.int (g 171))).set 4 (.int (g 172)))))) rfl (s_set_eq hf5) (by decide) (by simp only [List.length_set]; omega) (sTy_int (by decide +kernel) _) (List.set_set ..) ?_
    refine g_aload_n (i := 0) rfl rfl ?_
    refine g_aload_n (i := 1) rfl rfl ?_
    refine g_iload_n (i := 3) rfl rfl ?_
    refine g_iconst (n := 5) rfl ?_
    refine g_iadd rfl ?_
    refine g_ialv (n := 180) (f := g) (v := g 173) rfl (by rw [s_set_ne n60]; exact hg5) (i_in (by decide) (by decide)) (congrArg g (by decide)) ?_
    refine g_putfield (h1 := h5.set 60 (.inr (12, ((((((fs.set 0 (.int (g 168))).set 1 (.int (g 169))).set 2 (.int (g 170))).set 3 (.int (g 171))).set 4 (.int (g 172))).set 5 (.int (g 173)))))) rfl (s_set_eq hf5) (by decide) (by simp only [List.length_set]; omega) (sTy_int (by decide +kernel) _) (List.set_set ..) ?_
    refine g_aload_n (i := 0) rfl rfl ?_
    refine g_aload_n (i := 1) rfl rfl ?_
    refine g_iload_n (i := 3) rfl rfl ?_
    refine g_bipush (n := 6) rfl ?_
    refine g_iadd rfl ?_
    refine g_ialv (n := 180) (f := g) (v := g 174) rfl (by rw [s_set_ne n60]; exact hg5) (i_in (by decide) (by decide)) (congrArg g (by decide)) ?_
    refine g_putfield (h1 := h5.set 60 (.inr (12, (((((((fs.set 0 (.int (g 168))).set 1 (.int (g 169))).set 2 (.int (g 170))).set 3 (.int (g 171))).set 4 (.int (g 172))).set 5 (.int (g 173))).set 6 (.int (g 174)))))) rfl (s_set_eq hf5) (by decide) (by simp only [List.length_set]; omega) (sTy_int (by decide +kernel) _) (List.set_set ..) ?_
    refine g_goto 199 rfl rfl ?_
    refine g_return rfl rfl ?_
    exact hQ
def gS (A B C D E g : Nat → Int32) : Nat → Int32 := ks E (ks D (ks C (ks B (ks A g 0 64) 64 64) 128 5) 133 5) 138 30
def gS7 (g : Nat → Int32) (v0 v1 v2 v3 v4 v5 v6 : Int32) : Nat → Int32 := upd (upd (upd (upd (upd (upd (upd g 168 v0) 169 v1) 170 v2) 171 v3) 172 v4) 173 v5) 174 v6
theorem s_all_save {d : Nat} {h : sHp} {K : Nat} {fs : List Value} {A B C D E g : Nat → Int32} {v0 v1 v2 v3 v4 v5 v6 : Int32} {Q : Option Value → sHp → Prop} (hB : bBk h K fs A B C D E g) (k0 : fs[0]? = some (.int v0)) (k1 : fs[1]? = some (.int v1)) (k2 : fs[2]? = some (.int v2)) (k3 : fs[3]? = some (.int v3)) (k4 : fs[4]? = some (.int v4)) (k5 : fs[5]? = some (.int v5)) (k6 : fs[6]? = some (.int v6)) (hQ : Q none (h.set K (.inl (0, 180, .inl (gS7 (gS A B C D E g) v0 v1 v2 v3 v4 v5 v6))))) : sDo (d + 2) 201 [.ref 60, .ref K, .int (Int32.ofInt 0)] h Q := by
  obtain ⟨hf, hA, hB, hC, hD, hE, hg, hK, f9, f10, f11, f12, f13, hl⟩ := hB
  have n62 : (62 : Nat) ≠ K := by omega
  have n63 : (63 : Nat) ≠ K := by omega
  have n64 : (64 : Nat) ≠ K := by omega
  have n65 : (65 : Nat) ≠ K := by omega
  have n66 : (66 : Nat) ≠ K := by omega
  have nK : K ≠ (60 : Nat) := by omega
  refine sDo_of (d := d + 1) (nL := 4) (L := [some (.ref 60), some (.ref K), some (.int (Int32.ofInt 0)), none]) rfl rfl ?_
  refine g_aload_n (i := 0) rfl rfl ?_
  refine g_aload_n (i := 0) rfl rfl ?_
  refine g_getfield (v := .ref 62) rfl hf (by decide) f9 ?_
  refine g_bipush (n := 64) rfl ?_
  refine g_aload_n (i := 1) rfl rfl ?_
  refine g_iconst (n := 0) rfl ?_
  refine g_iload_n (i := 2) rfl rfl ?_
  refine g_virt5 (Qc := fun r h' => r = some (.int 64) ∧ h' = ((h.set K (.inl (0, 180, .inl (ks A (g) 0 64)))) : sHp)) rfl (by decide) rfl hf rfl (Nat.le_of_ble_eq_true rfl) (s_sv (n := 64) (r := 0) n62 hA hg (by decide) (by decide) (by decide) (by decide) rfl ⟨by decide, rfl⟩) (fun r h9 hq9 => ?_)
  obtain ⟨rfl, rfl⟩ := hq9
  have hf1 : ((h.set K (.inl (0, 180, .inl (ks A (g) 0 64)))) : sHp)[60]? = some (.inr (12, fs)) := (by rw [s_set_ne nK]; exact hf)
  refine g_istore_n (i := 3) (L1 := [some (.ref 60), some (.ref K), some (.int (Int32.ofInt 0)), some (.int 64)]) rfl (Nat.le_of_ble_eq_true rfl) rfl ?_
  refine g_aload_n (i := 0) rfl rfl ?_
  refine g_aload_n (i := 0) rfl rfl ?_
  refine g_getfield (v := .ref 63) rfl hf1 (by decide) f10 ?_
  refine g_bipush (n := 64) rfl ?_
  refine g_aload_n (i := 1) rfl rfl ?_
  refine g_iload_n (i := 3) rfl rfl ?_
  refine g_iload_n (i := 2) rfl rfl ?_
  refine g_virt5 (Qc := fun r h' => r = some (.int 128) ∧ h' = ((h.set K (.inl (0, 180, .inl (ks B (ks A (g) 0 64) 64 64)))) : sHp)) rfl (by decide) rfl hf1 rfl (Nat.le_of_ble_eq_true rfl) (s_sv (n := 64) (r := 64) n63 (by rw [s_set_ne (Ne.symm n63)]; exact hB) (s_set_eq hg) (by decide) (by decide) (by decide) (by decide) rfl ⟨by decide, List.set_set ..⟩) (fun r h9 hq9 => ?_)
  obtain ⟨rfl, rfl⟩ := hq9
  have hf2 : ((h.set K (.inl (0, 180, .inl (ks B (ks A (g) 0 64) 64 64)))) : sHp)[60]? = some (.inr (12, fs)) := (by rw [s_set_ne nK]; exact hf)
  refine g_istore_n (i := 3) (L1 := [some (.ref 60), some (.ref K), some (.int (Int32.ofInt 0)), some (.int 128)]) rfl (Nat.le_of_ble_eq_true rfl) rfl ?_
  refine g_aload_n (i := 0) rfl rfl ?_
  refine g_aload_n (i := 0) rfl rfl ?_
  refine g_getfield (v := .ref 64) rfl hf2 (by decide) f11 ?_
  refine g_iconst (n := 5) rfl ?_
  refine g_aload_n (i := 1) rfl rfl ?_
  refine g_iload_n (i := 3) rfl rfl ?_
  refine g_iload_n (i := 2) rfl rfl ?_
  refine g_virt5 (Qc := fun r h' => r = some (.int 133) ∧ h' = ((h.set K (.inl (0, 180, .inl (ks C (ks B (ks A (g) 0 64) 64 64) 128 5)))) : sHp)) rfl (by decide) rfl hf2 rfl (Nat.le_of_ble_eq_true rfl) (s_sv (n := 5) (r := 128) n64 (by rw [s_set_ne (Ne.symm n64)]; exact hC) (s_set_eq hg) (by decide) (by decide) (by decide) (by decide) rfl ⟨by decide, List.set_set ..⟩) (fun r h9 hq9 => ?_)
  obtain ⟨rfl, rfl⟩ := hq9
  have hf3 : ((h.set K (.inl (0, 180, .inl (ks C (ks B (ks A (g) 0 64) 64 64) 128 5)))) : sHp)[60]? = some (.inr (12, fs)) := (by rw [s_set_ne nK]; exact hf)
  refine g_istore_n (i := 3) (L1 := [some (.ref 60), some (.ref K), some (.int (Int32.ofInt 0)), some (.int 133)]) rfl (Nat.le_of_ble_eq_true rfl) rfl ?_
  refine g_aload_n (i := 0) rfl rfl ?_
  refine g_aload_n (i := 0) rfl rfl ?_
  refine g_getfield (v := .ref 65) rfl hf3 (by decide) f12 ?_
  refine g_iconst (n := 5) rfl ?_
  refine g_aload_n (i := 1) rfl rfl ?_
  refine g_iload_n (i := 3) rfl rfl ?_
  refine g_iload_n (i := 2) rfl rfl ?_
  refine g_virt5 (Qc := fun r h' => r = some (.int 138) ∧ h' = ((h.set K (.inl (0, 180, .inl (ks D (ks C (ks B (ks A (g) 0 64) 64 64) 128 5) 133 5)))) : sHp)) rfl (by decide) rfl hf3 rfl (Nat.le_of_ble_eq_true rfl) (s_sv (n := 5) (r := 133) n65 (by rw [s_set_ne (Ne.symm n65)]; exact hD) (s_set_eq hg) (by decide) (by decide) (by decide) (by decide) rfl ⟨by decide, List.set_set ..⟩) (fun r h9 hq9 => ?_)
  obtain ⟨rfl, rfl⟩ := hq9
  have hf4 : ((h.set K (.inl (0, 180, .inl (ks D (ks C (ks B (ks A (g) 0 64) 64 64) 128 5) 133 5)))) : sHp)[60]? = some (.inr (12, fs)) := (by rw [s_set_ne nK]; exact hf)
  refine g_istore_n (i := 3) (L1 := [some (.ref 60), some (.ref K), some (.int (Int32.ofInt 0)), some (.int 138)]) rfl (Nat.le_of_ble_eq_true rfl) rfl ?_
  refine g_aload_n (i := 0) rfl rfl ?_
  refine g_aload_n (i := 0) rfl rfl ?_
  refine g_getfield (v := .ref 66) rfl hf4 (by decide) f13 ?_
  refine g_bipush (n := 30) rfl ?_
  refine g_aload_n (i := 1) rfl rfl ?_
  refine g_iload_n (i := 3) rfl rfl ?_
  refine g_iload_n (i := 2) rfl rfl ?_
  refine g_virt5 (Qc := fun r h' => r = some (.int 168) ∧ h' = ((h.set K (.inl (0, 180, .inl (ks E (ks D (ks C (ks B (ks A (g) 0 64) 64 64) 128 5) 133 5) 138 30)))) : sHp)) rfl (by decide) rfl hf4 rfl (Nat.le_of_ble_eq_true rfl) (s_sv (n := 30) (r := 138) n66 (by rw [s_set_ne (Ne.symm n66)]; exact hE) (s_set_eq hg) (by decide) (by decide) (by decide) (by decide) rfl ⟨by decide, List.set_set ..⟩) (fun r h9 hq9 => ?_)
  obtain ⟨rfl, rfl⟩ := hq9
  refine g_istore_n (i := 3) (L1 := [some (.ref 60), some (.ref K), some (.int (Int32.ofInt 0)), some (.int 168)]) rfl (Nat.le_of_ble_eq_true rfl) rfl ?_
  refine g_iload_n (i := 2) rfl rfl ?_
  refine g_if_eq 137 rfl rfl (fun hc => ?_) (fun hc => ?_)
  · skip
    have hf5 : ((h.set K (.inl (0, 180, .inl (ks E (ks D (ks C (ks B (ks A (g) 0 64) 64 64) 128 5) 133 5) 138 30)))) : sHp)[60]? = some (.inr (12, fs)) := (by rw [s_set_ne nK]; exact hf)
    rw [show ks E (ks D (ks C (ks B (ks A (g) 0 64) 64 64) 128 5) 133 5) 138 30 = gS A B C D E g from rfl] at hf5 ⊢
    generalize gS A B C D E g = G at *
    refine g_aload_n (i := 1) rfl rfl ?_
    refine g_iload_n (i := 3) rfl rfl ?_
    refine g_aload_n (i := 0) rfl rfl ?_
    refine g_getfield (v := .int v0) rfl hf5 (by decide) k0 ?_
    refine g_iastore (h1 := (h.set K (.inl (0, 180, .inl (upd (G) 168 v0))))) rfl (s_set_eq hg) (i_in (by decide) (by decide)) (by rw [List.set_set]; rfl) ?_
    have hf6 : ((h.set K (.inl (0, 180, .inl (upd (G) 168 v0)))) : sHp)[60]? = some (.inr (12, fs)) := (by rw [s_set_ne nK]; exact hf)
    refine g_aload_n (i := 1) rfl rfl ?_
    refine g_iload_n (i := 3) rfl rfl ?_
    refine g_iconst (n := 1) rfl ?_
    refine g_iadd rfl ?_
    refine g_aload_n (i := 0) rfl rfl ?_
    refine g_getfield (v := .int v1) rfl hf6 (by decide) k1 ?_
    refine g_iastore (h1 := (h.set K (.inl (0, 180, .inl (upd (upd (G) 168 v0) 169 v1))))) rfl (s_set_eq hg) (i_in (by decide) (by decide)) (by rw [List.set_set]; rfl) ?_
    have hf7 : ((h.set K (.inl (0, 180, .inl (upd (upd (G) 168 v0) 169 v1)))) : sHp)[60]? = some (.inr (12, fs)) := (by rw [s_set_ne nK]; exact hf)
    refine g_aload_n (i := 1) rfl rfl ?_
    refine g_iload_n (i := 3) rfl rfl ?_
    refine g_iconst (n := 2) rfl ?_
    refine g_iadd rfl ?_
    refine g_aload_n (i := 0) rfl rfl ?_
    refine g_getfield (v := .int v2) rfl hf7 (by decide) k2 ?_
    refine g_iastore (h1 := (h.set K (.inl (0, 180, .inl (upd (upd (upd (G) 168 v0) 169 v1) 170 v2))))) rfl (s_set_eq hg) (i_in (by decide) (by decide)) (by rw [List.set_set]; rfl) ?_
    have hf8 : ((h.set K (.inl (0, 180, .inl (upd (upd (upd (G) 168 v0) 169 v1) 170 v2)))) : sHp)[60]? = some (.inr (12, fs)) := (by rw [s_set_ne nK]; exact hf)
    refine g_aload_n (i := 1) rfl rfl ?_
    refine g_iload_n (i := 3) rfl rfl ?_
    refine g_iconst (n := 3) rfl ?_
    refine g_iadd rfl ?_
    refine g_aload_n (i := 0) rfl rfl ?_
    refine g_getfield (v := .int v3) rfl hf8 (by decide) k3 ?_
    refine g_iastore (h1 := (h.set K (.inl (0, 180, .inl (upd (upd (upd (upd (G) 168 v0) 169 v1) 170 v2) 171 v3))))) rfl (s_set_eq hg) (i_in (by decide) (by decide)) (by rw [List.set_set]; rfl) ?_
    have hf9 : ((h.set K (.inl (0, 180, .inl (upd (upd (upd (upd (G) 168 v0) 169 v1) 170 v2) 171 v3)))) : sHp)[60]? = some (.inr (12, fs)) := (by rw [s_set_ne nK]; exact hf)
    refine g_aload_n (i := 1) rfl rfl ?_
    refine g_iload_n (i := 3) rfl rfl ?_
    refine g_iconst (n := 4) rfl ?_
    refine g_iadd rfl ?_
    refine g_aload_n (i := 0) rfl rfl ?_
    refine g_getfield (v := .int v4) rfl hf9 (by decide) k4 ?_
    refine g_iastore (h1 := (h.set K (.inl (0, 180, .inl (upd (upd (upd (upd (upd (G) 168 v0) 169 v1) 170 v2) 171 v3) 172 v4))))) rfl (s_set_eq hg) (i_in (by decide) (by decide)) (by rw [List.set_set]; rfl) ?_
    have hf10 : ((h.set K (.inl (0, 180, .inl (upd (upd (upd (upd (upd (G) 168 v0) 169 v1) 170 v2) 171 v3) 172 v4)))) : sHp)[60]? = some (.inr (12, fs)) := (by rw [s_set_ne nK]; exact hf)
    refine g_aload_n (i := 1) rfl rfl ?_
    refine g_iload_n (i := 3) rfl rfl ?_
    refine g_iconst (n := 5) rfl ?_
    refine g_iadd rfl ?_
    refine g_aload_n (i := 0) rfl rfl ?_
    refine g_getfield (v := .int v5) rfl hf10 (by decide) k5 ?_
    refine g_iastore (h1 := (h.set K (.inl (0, 180, .inl (upd (upd (upd (upd (upd (upd (G) 168 v0) 169 v1) 170 v2) 171 v3) 172 v4) 173 v5))))) rfl (s_set_eq hg) (i_in (by decide) (by decide)) (by rw [List.set_set]; rfl) ?_
    have hf11 : ((h.set K (.inl (0, 180, .inl (upd (upd (upd (upd (upd (upd (G) 168 v0) 169 v1) 170 v2) 171 v3) 172 v4) 173 v5)))) : sHp)[60]? = some (.inr (12, fs)) := (by rw [s_set_ne nK]; exact hf)
    refine g_aload_n (i := 1) rfl rfl ?_
    refine g_iload_n (i := 3) rfl rfl ?_
    refine g_bipush (n := 6) rfl ?_
    refine g_iadd rfl ?_
    refine g_aload_n (i := 0) rfl rfl ?_
    refine g_getfield (v := .int v6) rfl hf11 (by decide) k6 ?_
    refine g_iastore (h1 := (h.set K (.inl (0, 180, .inl (upd (upd (upd (upd (upd (upd (upd (G) 168 v0) 169 v1) 170 v2) 171 v3) 172 v4) 173 v5) 174 v6))))) rfl (s_set_eq hg) (i_in (by decide) (by decide)) (by rw [List.set_set]; rfl) ?_
    refine g_return rfl rfl ?_
    exact hQ
  · skip
    exact absurd rfl hc
