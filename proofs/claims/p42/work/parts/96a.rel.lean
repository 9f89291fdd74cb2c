/-! ===== trying a parting ===== -/
abbrev T3 : Type := Option (Nat × Nat) × Nat
noncomputable def tS (hd : Nat) (ok : Prop) (C C2 : Nat) (t : T3) : T3 := @ite _ (hd < t.2 ∧ ok) (Classical.propDecidable _) (some (C, C2), hd) t
theorem tS_y {hd : Nat} {ok : Prop} {C C2 : Nat} {t : T3} (h : hd < t.2 ∧ ok) : tS hd ok C C2 t = (some (C, C2), hd) := @if_pos _ (Classical.propDecidable _) h _ _ _
theorem tS_n {hd : Nat} {ok : Prop} {C C2 : Nat} {t : T3} (h : ¬ (hd < t.2 ∧ ok)) : tS hd ok C C2 t = t := @if_neg _ (Classical.propDecidable _) h _ _ _
theorem tS_le {hd : Nat} {ok : Prop} {C C2 : Nat} {t : T3} (h : t.2 ≤ 1000) : (tS hd ok C C2 t).2 ≤ 1000 := by
  by_cases z : hd < t.2 ∧ ok
  · rw [tS_y z]; have := z.1; show hd ≤ 1000; omega
  · rw [tS_n z]; exact h
def bsC (B : Nat → Int32) (t : T3) : Prop := (match t.1 with
  | none => B 0 = -1
  | some (a, b) => B 0 = Int32.ofNat a ∧ B 4 = Int32.ofNat b) ∧ B 5 = Int32.ofNat t.2
def bsJ (J : Nat → Int32) (t : T3) : Prop := match t.1 with
  | none => J 34 = -1 ∧ t.2 = 1000
  | some (a, b) => J 32 = Int32.ofNat a ∧ J 33 = Int32.ofNat b ∧ J 34 = Int32.ofNat t.2
def e38 (h h' : sHp) : Prop := h'.length = h.length ∧ ∀ q, q ≠ 38 → h'[q]? = h[q]?
theorem e38_rfl {h : sHp} : e38 h h := ⟨rfl, fun _ _ => rfl⟩
theorem e38_set {h h1 : sHp} {x : va_E} (a : e38 h h1) : e38 h (h1.set 38 x) := ⟨by rw [List.length_set]; exact a.1, fun q hq => by rw [s_set_ne (Ne.symm hq)]; exact a.2 q hq⟩
theorem vdG_b {F : Nat → Nat → Prop} {N : Nat} {f i : Nat} : ∀ (k f0 : Nat), vdG F N k f0 = some (f, i) → f0 ≤ f ∧ f < f0 + k ∧ i < N := by
  intro k
  induction k with
  | zero => intro f0 h; cases h
  | succ k ih =>
    intro f0 h
    have h : vdT (fst1 (F f0) N 0) f0 (vdG F N k (f0 + 1)) = some (f, i) := h
    cases e : fst1 (F f0) N 0 with
    | none =>
      rw [e] at h
      have q := ih (f0 + 1) h
      exact ⟨by omega, by omega, q.2.2⟩
    | some j =>
      rw [e] at h
      have h : some (f0, j) = some (f, i) := h
      cases h
      have q := fst1_lt e
      exact ⟨Nat.le_refl _, by omega, by omega⟩
theorem vdA_b {m : MF} {s : Sg} {S : Nat → Int64} {f i : Nat} (hN : s.2.2 ≤ 5) (h : vdA m s S = some (f, i)) : 1 ≤ f ∧ f ≤ 5 ∧ i ≤ 64 := by
  unfold vdA at h
  by_cases z : S 6 = Int64.ofNat 0
  · rw [if_pos z] at h
    have q := vdG_b 4 2 h
    exact ⟨by omega, by omega, by omega⟩
  · rw [if_neg z] at h
    cases h
    exact ⟨Nat.le_refl _, by decide, cnt_le _⟩
theorem vdI_0 {m : MF} {s : Sg} {S : Nat → Int64} (hN : s.2.2 ≤ 5) : vdI (vdA m s S) = 0 ↔ vdA m s S = none := by
  cases e : vdA m s S with
  | none => exact ⟨fun _ => rfl, fun _ => rfl⟩
  | some p =>
    obtain ⟨f, i⟩ := p
    have b := vdA_b hN e
    refine ⟨fun z => ?_, fun z => by cases z⟩
    have z : Int32.ofNat (100 * f + i) = 0 := z
    have z2 := congrArg Int32.toInt z
    rw [ofC_toInt (by omega)] at z2
    have e0 : (0 : Int32).toInt = 0 := rfl
    omega
theorem fcI_0 {m : MF} {s : Sg} {S : Nat → Int64} (hN : s.2.2 ≤ 5) : fcI (vdA m s S) = 0 ↔ vdA m s S = none := by
  cases e : vdA m s S with
  | none => exact ⟨fun _ => rfl, fun _ => rfl⟩
  | some p =>
    obtain ⟨f, i⟩ := p
    have b := vdA_b hN e
    refine ⟨fun z => ?_, fun z => by cases z⟩
    have z : Int32.ofNat f = 0 := z
    have z2 := congrArg Int32.toInt z
    rw [ofC_toInt (by omega)] at z2
    have e0 : (0 : Int32).toInt = 0 := rfl
    omega
theorem hdN_ext {W H : Nat} {a b : Nat → Int32} (w2 : 2 ≤ W) (w8 : W ≤ 8) (h8 : H ≤ 8) (e : ∀ q, q < W * H → a q = b q) : ∀ q, q ≤ W * H → hdN W (W * H) a q = hdN W (W * H) b q := by
  intro q
  induction q with
  | zero => intro _; rfl
  | succ q ih =>
    intro hq
    have hn := wh_le8 w8 h8
    show hdN W (W * H) a q + (_ + _) = hdN W (W * H) b q + (_ + _)
    have e1 : (if q % W + 1 < W ∧ ¬ a q = a (q + 1) then 1 else 0) = (if q % W + 1 < W ∧ ¬ b q = b (q + 1) then 1 else 0) := by
      by_cases z : q % W + 1 < W
      · rw [e q (by omega), e (q + 1) (nxt_in W (by omega) H (by omega) q (by omega) (by omega) z)]
      · rw [if_neg (fun y => z y.1), if_neg (fun y => z y.1)]
    have e2 : (if q + W < W * H ∧ ¬ a q = a (q + W) then 1 else 0) = (if q + W < W * H ∧ ¬ b q = b (q + W) then 1 else 0) := by
      by_cases z : q + W < W * H
      · rw [e q (by omega), e (q + W) z]
      · rw [if_neg (fun y => z y.1), if_neg (fun y => z y.1)]
    rw [ih (by omega), e1, e2]
theorem s_try11 {d : Nat} {h : sHp} {c : CF} {m : MF} {s : Sg} {S : Nat → Int64} {ow : Nat → Int32} {B : Nat → Int32} {S1 S2 : Int64} {x y : Int32} {C C2 : Nat} {t : T3} (hd : 8 ≤ d) (F : FC h 5 c) (g : gdF c s.1 s.2.1) (r : RB c m) (sI : sgI c s) (hS : h[38]? = some (sO B S1 S2)) (h41 : h[41]? = some (.inl (1, 7, .inr (.inl S)))) (P : PT S ow (s.1 * s.2.1)) (ht : t.2 ≤ 1000) (b : bsC B t) (hx : x = Int32.ofNat C) (hy : y = Int32.ofNat C2) : sDo d 96 [.ref 38, .ref 5, .int x, .int y] h (fun rv h' => rv = none ∧ ∃ B', h'[38]? = some (sO B' S1 S2) ∧ B' 6 = B 6 ∧ bsC B' (tS (hdN s.1 (s.1 * s.2.1) ow (s.1 * s.2.1)) (vdA m s S = none) C C2 t) ∧ e38 h h') := by
  have n5 := sI.2.2.2.2.2.2.2
  have hn := gdF_n g
  have hle := hdN_le (W := s.1) (n := (s.1 * s.2.1)) (ow := ow) (s.1 * s.2.1)
  have eh := ofN_toInt (n := (hdN s.1 (s.1 * s.2.1) ow (s.1 * s.2.1))) (by omega)
  have et : (B 5).toInt = ((t.2 : Nat) : Int) := by rw [b.2]; exact ofC_toInt (by omega)
  have hv0 := vdI_0 (m := m) (S := S) n5
  refine sDo_of1 (nL := 5) (L := [some (.ref 38), some (.ref 5), some (.int x), some (.int y), none]) (by omega) rfl rfl ?_
  refine g_aload_n (i := 1) rfl rfl ?_
  refine g_aload_n (i := 0) rfl rfl ?_
  refine g_getfield (v := .ref 41) rfl hS (by decide) rfl ?_
  refine g_virt1 (Qc := fun r h' => h' = h ∧ r = some (.int (Int32.ofNat (hdN s.1 (s.1 * s.2.1) ow (s.1 * s.2.1))))) rfl (by decide) rfl F.1 rfl (Nat.le_of_ble_eq_true rfl) (s_hedge11 (by omega) F g h41 P) (fun r h hq9 => ?_)
  obtain ⟨rfl, rfl⟩ := hq9
  refine g_istore (i := 4) (L1 := [some (.ref 38), some (.ref 5), some (.int x), some (.int y), some (.int (Int32.ofNat (hdN s.1 (s.1 * s.2.1) ow (s.1 * s.2.1))))]) rfl (Nat.le_of_ble_eq_true rfl) rfl ?_
  refine g_iload (i := 4) rfl rfl ?_
  refine g_aload_n (i := 0) rfl rfl ?_
  refine g_getfield (v := .int (B 5)) rfl hS (by decide) rfl ?_
  refine g_icmp_ge 46 rfl rfl (fun c_1 => ?_) (fun c_1 => ?_)
  · skip
    rw [i_le, eh, et] at c_1
    refine g_return rfl rfl ?_
    refine ⟨rfl, B, hS, rfl, ?_, e38_rfl⟩
    rw [tS_n (fun z => by have := z.1; omega)]
    exact b
  · skip
    rw [i_le, eh, et] at c_1
    refine g_aload_n (i := 1) rfl rfl ?_
    refine g_aload_n (i := 0) rfl rfl ?_
    refine g_getfield (v := .ref 41) rfl hS (by decide) rfl ?_
    refine g_virt1 (Qc := fun r h' => h' = h ∧ r = some (.int (vdI (vdA m s S)))) rfl (by decide) rfl F.1 rfl (Nat.le_of_ble_eq_true rfl) (s_verd11 (by omega) F g r sI h41 P) (fun r h hq9 => ?_)
    obtain ⟨rfl, rfl⟩ := hq9
    refine g_if_ne 46 rfl rfl (fun c_2 => ?_) (fun c_2 => ?_)
    · skip
      refine g_return rfl rfl ?_
      refine ⟨rfl, B, hS, rfl, ?_, e38_rfl⟩
      rw [tS_n (fun z => c_2 (hv0.mpr z.2))]
      exact b
    · skip
      refine g_aload_n (i := 0) rfl rfl ?_
      refine g_iload_n (i := 2) rfl rfl ?_
      refine g_putfield (h1 := h.set 38 (sO (upd B 0 x) S1 S2)) rfl hS (by decide) (Nat.le_of_ble_eq_true rfl) rfl rfl ?_
      have hA : (h.set 38 (sO (upd B 0 x) S1 S2))[38]? = some (sO (upd B 0 x) S1 S2) := s_set_eq hS
      refine g_aload_n (i := 0) rfl rfl ?_
      refine g_iload_n (i := 3) rfl rfl ?_
      refine g_putfield (h1 := h.set 38 (sO (upd (upd B 0 x) 4 y) S1 S2)) rfl hA (by decide) (Nat.le_of_ble_eq_true rfl) rfl (by rw [List.set_set]; rfl) ?_
      have hB : (h.set 38 (sO (upd (upd B 0 x) 4 y) S1 S2))[38]? = some (sO (upd (upd B 0 x) 4 y) S1 S2) := s_set_eq hS
      refine g_aload_n (i := 0) rfl rfl ?_
      refine g_iload (i := 4) rfl rfl ?_
      refine g_putfield (h1 := h.set 38 (sO (upd (upd (upd B 0 x) 4 y) 5 (Int32.ofNat (hdN s.1 (s.1 * s.2.1) ow (s.1 * s.2.1)))) S1 S2)) rfl hB (by decide) (Nat.le_of_ble_eq_true rfl) rfl (by rw [List.set_set]; rfl) ?_
      refine g_return rfl rfl ?_
      have ty : (hdN s.1 (s.1 * s.2.1) ow (s.1 * s.2.1)) < t.2 ∧ vdA m s S = none := ⟨by omega, hv0.mp c_2⟩
      refine ⟨rfl, _, s_set_eq hS, (u_ne (by decide)).trans ((u_ne (by decide)).trans (u_ne (by decide))), ?_, e38_set e38_rfl⟩
      rw [tS_y ty]
      exact ⟨⟨(u_ne (by decide)).trans ((u_ne (by decide)).trans (u_at.trans hx)), (u_ne (by decide)).trans (u_at.trans hy)⟩, u_at⟩
theorem s_try12 {d : Nat} {h : sHp} {c : CF} {m : MF} {s : Sg} {S : Nat → Int64} {x y : Int32} {C C2 : Nat} {t : T3} (hd : 6 ≤ d) (M : MC h m) (gM : gdM m.1 s.1 s.2.1) (g : gdF c s.1 s.2.1) (r : RB c m) (sI : sgI c s) (sJ : sgJ m.1 s) (P : PT S m.2.2.1 (s.1 * s.2.1)) (ht : t.2 ≤ 1000) (b : bsJ m.1 t) (hx : x = Int32.ofNat C) (hy : y = Int32.ofNat C2) : sDo d 234 [.ref 60, .int x, .int y] h (fun rv h' => rv = none ∧ ∃ J', h'[60]? = some (mO J') ∧ (∀ j, j ≠ 28 → j ≠ 32 → j ≠ 33 → j ≠ 34 → J' j = m.1 j) ∧ bsJ J' (tS (hdN s.1 (s.1 * s.2.1) m.2.2.1 (s.1 * s.2.1)) (vdA m s S = none) C C2 t) ∧ e60 h h') := by
  have n5 := sI.2.2.2.2.2.2.2
  have hn := gdF_n g
  have hle := hdN_le (W := s.1) (n := (s.1 * s.2.1)) (ow := m.2.2.1) (s.1 * s.2.1)
  have eh := ofN_toInt (n := (hdN s.1 (s.1 * s.2.1) m.2.2.1 (s.1 * s.2.1))) (by omega)
  have hv0 := fcI_0 (m := m) (S := S) n5
  have em : (-1 : Int32).toInt = -1 := rfl
  obtain ⟨t1, t2⟩ := t
  have ht : t2 ≤ 1000 := ht
  refine sDo_of1 (nL := 4) (L := [some (.ref 60), some (.int x), some (.int y), none]) (by omega) rfl rfl ?_
  rcases t1 with _ | ⟨a, b'⟩
  · have e34 : m.1 34 = -1 := b.1
    have e2 : t2 = 1000 := b.2
    refine g_aload_n (i := 0) rfl rfl ?_
    refine g_virt0 (Qc := fun r h' => h' = h ∧ r = some (.int (Int32.ofNat (hdN s.1 (s.1 * s.2.1) m.2.2.1 (s.1 * s.2.1))))) rfl (by decide) rfl M.1 rfl (Nat.le_of_ble_eq_true rfl) (s_hedge12 (by omega) M gM) (fun r h hq9 => ?_)
    obtain ⟨rfl, rfl⟩ := hq9
    refine g_istore_n (i := 3) (L1 := [some (.ref 60), some (.int x), some (.int y), some (.int (Int32.ofNat (hdN s.1 (s.1 * s.2.1) m.2.2.1 (s.1 * s.2.1))))]) rfl (Nat.le_of_ble_eq_true rfl) rfl ?_
    refine g_aload_n (i := 0) rfl rfl ?_
    refine g_getfield (v := .int (m.1 34)) rfl M.1 (by decide) rfl ?_
    refine g_iconst (n := (-1)) rfl ?_
    refine g_icmp_eq 21 rfl rfl (fun _ => ?_) (fun hc => absurd hc (by exact fun z => z e34))
    refine g_aload_n (i := 0) rfl rfl ?_
    refine g_virt0 rfl (by decide) rfl M.1 rfl (Nat.le_of_ble_eq_true rfl) (s_fnow (d := d - 1) (by omega) M gM g r sI sJ P) (fun rv h2 hq => ?_)
    obtain ⟨J2, hr2, hj2, -, E2, rfl⟩ := hq
    refine g_if_eq 29 rfl rfl (fun c_1 => ?_) (fun c_1 => ?_)
    · skip
      refine g_aload_n (i := 0) rfl rfl ?_
      refine g_iload_n (i := 3) rfl rfl ?_
      refine g_putfield (h1 := h2.set 60 (mO (upd J2 34 (Int32.ofNat (hdN s.1 (s.1 * s.2.1) m.2.2.1 (s.1 * s.2.1)))))) rfl hr2 (by decide) (Nat.le_of_ble_eq_true rfl) rfl rfl ?_
      have hA : (h2.set 60 (mO (upd J2 34 (Int32.ofNat (hdN s.1 (s.1 * s.2.1) m.2.2.1 (s.1 * s.2.1))))))[60]? = some (mO (upd J2 34 (Int32.ofNat (hdN s.1 (s.1 * s.2.1) m.2.2.1 (s.1 * s.2.1))))) := s_set_eq hr2
      refine g_aload_n (i := 0) rfl rfl ?_
      refine g_iload_n (i := 1) rfl rfl ?_
      refine g_putfield (h1 := h2.set 60 (mO (upd (upd J2 34 (Int32.ofNat (hdN s.1 (s.1 * s.2.1) m.2.2.1 (s.1 * s.2.1)))) 32 x))) rfl hA (by decide) (Nat.le_of_ble_eq_true rfl) rfl (by rw [List.set_set]; rfl) ?_
      have hB : (h2.set 60 (mO (upd (upd J2 34 (Int32.ofNat (hdN s.1 (s.1 * s.2.1) m.2.2.1 (s.1 * s.2.1)))) 32 x)))[60]? = some (mO (upd (upd J2 34 (Int32.ofNat (hdN s.1 (s.1 * s.2.1) m.2.2.1 (s.1 * s.2.1)))) 32 x)) := s_set_eq hr2
      refine g_aload_n (i := 0) rfl rfl ?_
      refine g_iload_n (i := 2) rfl rfl ?_
      refine g_putfield (h1 := h2.set 60 (mO (upd (upd (upd J2 34 (Int32.ofNat (hdN s.1 (s.1 * s.2.1) m.2.2.1 (s.1 * s.2.1)))) 32 x) 33 y))) rfl hB (by decide) (Nat.le_of_ble_eq_true rfl) rfl (by rw [List.set_set]; rfl) ?_
      refine g_return rfl rfl ?_
      have ty : (hdN s.1 (s.1 * s.2.1) m.2.2.1 (s.1 * s.2.1)) < ((none, t2) : T3).2 ∧ vdA m s S = none := ⟨by show _ < t2; omega, hv0.mp c_1⟩
      refine ⟨rfl, _, s_set_eq hr2, fun j j1 j2 j3 j4 => (u_ne j3).trans ((u_ne j2).trans ((u_ne j4).trans (hj2 j j1))), ?_, e60_set E2⟩
      rw [tS_y ty]
      exact ⟨(u_ne (by decide)).trans (u_at.trans hx), u_at.trans hy, (u_ne (by decide)).trans ((u_ne (by decide)).trans u_at)⟩
    · skip
      refine g_return rfl rfl ?_
      refine ⟨rfl, J2, hr2, fun j j1 j2 j3 j4 => hj2 j j1, ?_, E2⟩
      rw [tS_n (fun z => c_1 (hv0.mpr z.2))]
      exact ⟨(hj2 34 (by decide)).trans e34, e2⟩
  · have b : m.1 32 = Int32.ofNat a ∧ m.1 33 = Int32.ofNat b' ∧ m.1 34 = Int32.ofNat t2 := b
    have et : (m.1 34).toInt = ((t2 : Nat) : Int) := by rw [b.2.2]; exact ofC_toInt (by omega)
    refine g_aload_n (i := 0) rfl rfl ?_
    refine g_virt0 (Qc := fun r h' => h' = h ∧ r = some (.int (Int32.ofNat (hdN s.1 (s.1 * s.2.1) m.2.2.1 (s.1 * s.2.1))))) rfl (by decide) rfl M.1 rfl (Nat.le_of_ble_eq_true rfl) (s_hedge12 (by omega) M gM) (fun r h hq9 => ?_)
    obtain ⟨rfl, rfl⟩ := hq9
    refine g_istore_n (i := 3) (L1 := [some (.ref 60), some (.int x), some (.int y), some (.int (Int32.ofNat (hdN s.1 (s.1 * s.2.1) m.2.2.1 (s.1 * s.2.1))))]) rfl (Nat.le_of_ble_eq_true rfl) rfl ?_
    refine g_aload_n (i := 0) rfl rfl ?_
    refine g_getfield (v := .int (m.1 34)) rfl M.1 (by decide) rfl ?_
    refine g_iconst (n := (-1)) rfl ?_
    refine g_icmp_eq 21 rfl rfl (fun hc => absurd hc (by intro z; have z := congrArg Int32.toInt z; rw [et] at z; have e1 : (Int32.ofInt (-1)).toInt = -1 := rfl; omega)) (fun _ => ?_)
    refine g_iload_n (i := 3) rfl rfl ?_
    refine g_aload_n (i := 0) rfl rfl ?_
    refine g_getfield (v := .int (m.1 34)) rfl M.1 (by decide) rfl ?_
    refine g_icmp_ge 28 rfl rfl (fun c_1 => ?_) (fun c_1 => ?_)
    · skip
      rw [i_le, eh, et] at c_1
      refine g_return rfl rfl ?_
      refine ⟨rfl, m.1, M.1, fun _ _ _ _ _ => rfl, ?_, e60_rfl⟩
      rw [tS_n (fun z => by have z1 := z.1; dsimp only at z1; omega)]
      exact b
    · skip
      rw [i_le, eh, et] at c_1
      refine g_aload_n (i := 0) rfl rfl ?_
      refine g_virt0 rfl (by decide) rfl M.1 rfl (Nat.le_of_ble_eq_true rfl) (s_fnow (d := d - 1) (by omega) M gM g r sI sJ P) (fun rv h2 hq => ?_)
      obtain ⟨J2, hr2, hj2, -, E2, rfl⟩ := hq
      refine g_if_eq 29 rfl rfl (fun c_2 => ?_) (fun c_2 => ?_)
      · skip
        refine g_aload_n (i := 0) rfl rfl ?_
        refine g_iload_n (i := 3) rfl rfl ?_
        refine g_putfield (h1 := h2.set 60 (mO (upd J2 34 (Int32.ofNat (hdN s.1 (s.1 * s.2.1) m.2.2.1 (s.1 * s.2.1)))))) rfl hr2 (by decide) (Nat.le_of_ble_eq_true rfl) rfl rfl ?_
        have hA : (h2.set 60 (mO (upd J2 34 (Int32.ofNat (hdN s.1 (s.1 * s.2.1) m.2.2.1 (s.1 * s.2.1))))))[60]? = some (mO (upd J2 34 (Int32.ofNat (hdN s.1 (s.1 * s.2.1) m.2.2.1 (s.1 * s.2.1))))) := s_set_eq hr2
        refine g_aload_n (i := 0) rfl rfl ?_
        refine g_iload_n (i := 1) rfl rfl ?_
        refine g_putfield (h1 := h2.set 60 (mO (upd (upd J2 34 (Int32.ofNat (hdN s.1 (s.1 * s.2.1) m.2.2.1 (s.1 * s.2.1)))) 32 x))) rfl hA (by decide) (Nat.le_of_ble_eq_true rfl) rfl (by rw [List.set_set]; rfl) ?_
        have hB : (h2.set 60 (mO (upd (upd J2 34 (Int32.ofNat (hdN s.1 (s.1 * s.2.1) m.2.2.1 (s.1 * s.2.1)))) 32 x)))[60]? = some (mO (upd (upd J2 34 (Int32.ofNat (hdN s.1 (s.1 * s.2.1) m.2.2.1 (s.1 * s.2.1)))) 32 x)) := s_set_eq hr2
        refine g_aload_n (i := 0) rfl rfl ?_
        refine g_iload_n (i := 2) rfl rfl ?_
        refine g_putfield (h1 := h2.set 60 (mO (upd (upd (upd J2 34 (Int32.ofNat (hdN s.1 (s.1 * s.2.1) m.2.2.1 (s.1 * s.2.1)))) 32 x) 33 y))) rfl hB (by decide) (Nat.le_of_ble_eq_true rfl) rfl (by rw [List.set_set]; rfl) ?_
        refine g_return rfl rfl ?_
        have ty : (hdN s.1 (s.1 * s.2.1) m.2.2.1 (s.1 * s.2.1)) < ((some (a, b'), t2) : T3).2 ∧ vdA m s S = none := ⟨by show _ < t2; omega, hv0.mp c_2⟩
        refine ⟨rfl, _, s_set_eq hr2, fun j j1 j2 j3 j4 => (u_ne j3).trans ((u_ne j2).trans ((u_ne j4).trans (hj2 j j1))), ?_, e60_set E2⟩
        rw [tS_y ty]
        exact ⟨(u_ne (by decide)).trans (u_at.trans hx), u_at.trans hy, (u_ne (by decide)).trans ((u_ne (by decide)).trans u_at)⟩
      · skip
        refine g_return rfl rfl ?_
        refine ⟨rfl, J2, hr2, fun j j1 j2 j3 j4 => hj2 j j1, ?_, E2⟩
        rw [tS_n (fun z => c_2 (hv0.mpr z.2))]
        exact ⟨(hj2 32 (by decide)).trans b.1, (hj2 33 (by decide)).trans b.2.1, (hj2 34 (by decide)).trans b.2.2⟩
theorem s_save12_go {d : Nat} {h0 : sHp} {J ow sp : Nat → Int32} (hr : h0[60]? = some (mO J)) (h63 : h0[63]? = some (.inl (0, 64, .inl ow))) (h77 : h0[77]? = some (.inl (0, 64, .inl sp))) : ∀ (f k : Nat), k + f = 64 → sGo none 233 d 2 [some (.ref 60), some (.int (Int32.ofInt 0)), some (.int (Int32.ofNat k))] [] (h0.set 77 (.inl (0, 64, .inl (fun i => if i < k then ow i else sp i)))) (fun r h' => r = none ∧ h' = h0.set 77 (.inl (0, 64, .inl (fun i => if i < 64 then ow i else sp i)))) := by
  have e64 : (Int8.ofInt 64).toInt32.toInt = ((64 : Nat) : Int) := rfl
  intro f
  induction f with
  | zero =>
    intro k hk
    have k64 : k = 64 := by omega
    subst k64
    have ek := ofN_toInt (n := 64) (by decide)
    have hr1 : (h0.set 77 (.inl (0, 64, .inl (fun i => if i < 64 then ow i else sp i))))[60]? = some (mO J) := by rw [s_set_ne (by decide)]; exact hr
    refine g_iload_n (i := 2) rfl rfl ?_
    refine g_bipush (n := 64) rfl ?_
    refine g_icmp_ge 45 rfl rfl (fun _ => ?_) (fun hc => absurd hc (by exact fun z => z (by decide)))
    refine g_return rfl rfl ?_
    exact ⟨rfl, rfl⟩
  | succ f ih =>
    intro k hk
    have ek := ofN_toInt (n := k) (by omega)
    have hr1 : (h0.set 77 (.inl (0, 64, .inl (fun i => if i < k then ow i else sp i))))[60]? = some (mO J) := by rw [s_set_ne (by decide)]; exact hr
    have hs1 : (h0.set 77 (.inl (0, 64, .inl (fun i => if i < k then ow i else sp i))))[63]? = some (.inl (0, 64, .inl ow)) := by rw [s_set_ne (by decide)]; exact h63
    have hd1 : (h0.set 77 (.inl (0, 64, .inl (fun i => if i < k then ow i else sp i))))[77]? = some (.inl (0, 64, .inl (fun i => if i < k then ow i else sp i))) := s_set_eq h77
    have ef : upd (fun i => if i < k then ow i else sp i) k (ow k) = (fun i => if i < (k + 1) then ow i else sp i) := funext fun i => by
      by_cases e : i = k
      · rw [e, u_at]; exact (if_pos (by omega)).symm
      · rw [u_ne e]
        by_cases l : i < k
        · exact (if_pos l).trans (if_pos (by omega)).symm
        · exact (if_neg l).trans (if_neg (by omega)).symm
    refine g_iload_n (i := 2) rfl rfl ?_
    refine g_bipush (n := 64) rfl ?_
    refine g_icmp_ge 45 rfl rfl (fun hc => absurd hc (by rw [i_le, e64, ek]; omega)) (fun _ => ?_)
    refine g_iload_n (i := 1) rfl rfl ?_
    refine g_if_eq 27 rfl rfl (fun _ => ?_) (fun hc => absurd hc (by decide))
    refine g_aload_n (i := 0) rfl rfl ?_
    refine g_getfield (v := .ref 77) rfl hr1 (by decide) rfl ?_
    refine g_iload_n (i := 2) rfl rfl ?_
    refine g_aload_n (i := 0) rfl rfl ?_
    refine g_getfield (v := .ref 63) rfl hr1 (by decide) rfl ?_
    refine g_iload_n (i := 2) rfl rfl ?_
    refine g_iaload (n := 64) (f := ow) rfl hs1 (i_in (by omega) (by omega)) ?_
    rw [i_nat ek]
    refine g_iastore (n := 64) (f := (fun i => if i < k then ow i else sp i)) (h1 := h0.set 77 (.inl (0, 64, .inl (fun i => if i < (k + 1) then ow i else sp i)))) rfl hd1 (i_in (by omega) (by omega)) (by rw [i_nat ek, List.set_set, ef]) ?_
    refine g_iinc (i := 2) (L1 := [some (.ref 60), some (.int (Int32.ofInt 0)), some (.int ((Int32.ofNat k) + Int32.ofInt 1))]) rfl rfl rfl ?_
    rw [ofN_add (by omega)]
    refine g_goto 2 rfl rfl ?_
    exact ih (k + 1) (by omega)
theorem s_save12 {d : Nat} {h0 : sHp} {J ow sp : Nat → Int32} (hd : 1 ≤ d) (hr : h0[60]? = some (mO J)) (h63 : h0[63]? = some (.inl (0, 64, .inl ow))) (h77 : h0[77]? = some (.inl (0, 64, .inl sp))) : sDo d 233 [.ref 60, .int (Int32.ofInt 0)] h0 (fun r h' => r = none ∧ h' = h0.set 77 (.inl (0, 64, .inl (fun i => if i < 64 then ow i else sp i)))) := by
  refine sDo_of1 (nL := 3) (L := [some (.ref 60), some (.int (Int32.ofInt 0)), none]) (by omega) rfl rfl ?_
  have e0 : h0 = h0.set 77 (.inl (0, 64, .inl (fun i => if i < 0 then ow i else sp i))) := (List.ext_getElem? (fun i => by
    by_cases e : i = 77
    · rw [e, s_set_eq h77, h77]
      exact congrArg (fun f => (some (.inl (0, 64, .inl f)) : Option va_E)) (funext fun i => (if_neg (Nat.not_lt_zero i)).symm)
    · rw [s_set_ne (Ne.symm e)]))
  refine g_iconst (n := 0) rfl ?_
  refine g_istore_n (i := 2) (L1 := [some (.ref 60), some (.int (Int32.ofInt 0)), some (.int (Int32.ofInt 0))]) rfl (Nat.le_of_ble_eq_true rfl) rfl ?_
  have key := s_save12_go (d := d - 1) hr h63 h77 64 0 (by decide)
  rw [← e0] at key
  exact key
theorem s_back12_go {d : Nat} {h0 : sHp} {J ow sp : Nat → Int32} (hr : h0[60]? = some (mO J)) (h63 : h0[63]? = some (.inl (0, 64, .inl ow))) (h77 : h0[77]? = some (.inl (0, 64, .inl sp))) : ∀ (f k : Nat), k + f = 64 → sGo none 233 d 2 [some (.ref 60), some (.int (Int32.ofInt 1)), some (.int (Int32.ofNat k))] [] (h0.set 63 (.inl (0, 64, .inl (fun i => if i < k then sp i else ow i)))) (fun r h' => r = none ∧ h' = h0.set 63 (.inl (0, 64, .inl (fun i => if i < 64 then sp i else ow i)))) := by
  have e64 : (Int8.ofInt 64).toInt32.toInt = ((64 : Nat) : Int) := rfl
  intro f
  induction f with
  | zero =>
    intro k hk
    have k64 : k = 64 := by omega
    subst k64
    have ek := ofN_toInt (n := 64) (by decide)
    have hr1 : (h0.set 63 (.inl (0, 64, .inl (fun i => if i < 64 then sp i else ow i))))[60]? = some (mO J) := by rw [s_set_ne (by decide)]; exact hr
    refine g_iload_n (i := 2) rfl rfl ?_
    refine g_bipush (n := 64) rfl ?_
    refine g_icmp_ge 45 rfl rfl (fun _ => ?_) (fun hc => absurd hc (by exact fun z => z (by decide)))
    refine g_return rfl rfl ?_
    exact ⟨rfl, rfl⟩
  | succ f ih =>
    intro k hk
    have ek := ofN_toInt (n := k) (by omega)
    have hr1 : (h0.set 63 (.inl (0, 64, .inl (fun i => if i < k then sp i else ow i))))[60]? = some (mO J) := by rw [s_set_ne (by decide)]; exact hr
    have hs1 : (h0.set 63 (.inl (0, 64, .inl (fun i => if i < k then sp i else ow i))))[77]? = some (.inl (0, 64, .inl sp)) := by rw [s_set_ne (by decide)]; exact h77
    have hd1 : (h0.set 63 (.inl (0, 64, .inl (fun i => if i < k then sp i else ow i))))[63]? = some (.inl (0, 64, .inl (fun i => if i < k then sp i else ow i))) := s_set_eq h63
    have ef : upd (fun i => if i < k then sp i else ow i) k (sp k) = (fun i => if i < (k + 1) then sp i else ow i) := funext fun i => by
      by_cases e : i = k
      · rw [e, u_at]; exact (if_pos (by omega)).symm
      · rw [u_ne e]
        by_cases l : i < k
        · exact (if_pos l).trans (if_pos (by omega)).symm
        · exact (if_neg l).trans (if_neg (by omega)).symm
    refine g_iload_n (i := 2) rfl rfl ?_
    refine g_bipush (n := 64) rfl ?_
    refine g_icmp_ge 45 rfl rfl (fun hc => absurd hc (by rw [i_le, e64, ek]; omega)) (fun _ => ?_)
    refine g_iload_n (i := 1) rfl rfl ?_
    refine g_if_eq 27 rfl rfl (fun hc => absurd hc (by decide)) (fun _ => ?_)
    refine g_aload_n (i := 0) rfl rfl ?_
    refine g_getfield (v := .ref 63) rfl hr1 (by decide) rfl ?_
    refine g_iload_n (i := 2) rfl rfl ?_
    refine g_aload_n (i := 0) rfl rfl ?_
    refine g_getfield (v := .ref 77) rfl hr1 (by decide) rfl ?_
    refine g_iload_n (i := 2) rfl rfl ?_
    refine g_iaload (n := 64) (f := sp) rfl hs1 (i_in (by omega) (by omega)) ?_
    rw [i_nat ek]
    refine g_iastore (n := 64) (f := (fun i => if i < k then sp i else ow i)) (h1 := h0.set 63 (.inl (0, 64, .inl (fun i => if i < (k + 1) then sp i else ow i)))) rfl hd1 (i_in (by omega) (by omega)) (by rw [i_nat ek, List.set_set, ef]) ?_
    refine g_goto 39 rfl rfl ?_
    refine g_iinc (i := 2) (L1 := [some (.ref 60), some (.int (Int32.ofInt 1)), some (.int ((Int32.ofNat k) + Int32.ofInt 1))]) rfl rfl rfl ?_
    rw [ofN_add (by omega)]
    refine g_goto 2 rfl rfl ?_
    exact ih (k + 1) (by omega)
theorem s_back12 {d : Nat} {h0 : sHp} {J ow sp : Nat → Int32} (hd : 1 ≤ d) (hr : h0[60]? = some (mO J)) (h63 : h0[63]? = some (.inl (0, 64, .inl ow))) (h77 : h0[77]? = some (.inl (0, 64, .inl sp))) : sDo d 233 [.ref 60, .int (Int32.ofInt 1)] h0 (fun r h' => r = none ∧ h' = h0.set 63 (.inl (0, 64, .inl (fun i => if i < 64 then sp i else ow i)))) := by
  refine sDo_of1 (nL := 3) (L := [some (.ref 60), some (.int (Int32.ofInt 1)), none]) (by omega) rfl rfl ?_
  have e0 : h0 = h0.set 63 (.inl (0, 64, .inl (fun i => if i < 0 then sp i else ow i))) := (List.ext_getElem? (fun i => by
    by_cases e : i = 63
    · rw [e, s_set_eq h63, h63]
      exact congrArg (fun f => (some (.inl (0, 64, .inl f)) : Option va_E)) (funext fun i => (if_neg (Nat.not_lt_zero i)).symm)
    · rw [s_set_ne (Ne.symm e)]))
  refine g_iconst (n := 0) rfl ?_
  refine g_istore_n (i := 2) (L1 := [some (.ref 60), some (.int (Int32.ofInt 1)), some (.int (Int32.ofInt 0))]) rfl (Nat.le_of_ble_eq_true rfl) rfl ?_
  have key := s_back12_go (d := d - 1) hr h63 h77 64 0 (by decide)
  rw [← e0] at key
  exact key
