/-! ===== by hand: what the late ones need ===== -/
theorem bTL_1 {h : sHp} {t0 : Option bTy} {vL : sLo} (q : bTL h [t0] vL) : ∃ a0, vL = [a0] := by
  obtain ⟨hl, -⟩ := q
  have hl : 1 = vL.length := hl
  match vL, hl with
  | [a0], _ => exact ⟨_, rfl⟩
theorem bTL_5 {h : sHp} {t0 t1 t2 t3 t4 : Option bTy} {vL : sLo} (q : bTL h [t0, t1, t2, t3, t4] vL) : ∃ a0 a1 a2 a3 a4, vL = [a0, a1, a2, a3, a4] := by
  obtain ⟨hl, -⟩ := q
  have hl : 5 = vL.length := hl
  match vL, hl with
  | [a0, a1, a2, a3, a4], _ => exact ⟨_, _, _, _, _, rfl⟩
theorem bTL_7 {h : sHp} {t0 t1 t2 t3 t4 t5 t6 : Option bTy} {vL : sLo} (q : bTL h [t0, t1, t2, t3, t4, t5, t6] vL) : ∃ a0 a1 a2 a3 a4 a5 a6, vL = [a0, a1, a2, a3, a4, a5, a6] := by
  obtain ⟨hl, -⟩ := q
  have hl : 7 = vL.length := hl
  match vL, hl with
  | [a0, a1, a2, a3, a4, a5, a6], _ => exact ⟨_, _, _, _, _, _, _, rfl⟩
theorem bSt_L {h : sHp} {p n W K : Nat} {f f' : Nat → Int64} {z : Nat} {cs : List Int} (hH : bH h) (hk : bKp p (.inr (0, [])) = K) (hp : p < 79) (hg : bGam K = some (.inl (1, n, .inr (0, z), cs))) (ha : h[p]? = some (.inl (1, n, .inr (.inl f)))) (hW : W.testBit (K * 64) = true) : bH (h.set p (.inl (1, n, .inr (.inl f')))) ∧ bFr W 0 h (h.set p (.inl (1, n, .inr (.inl f')))) := by
  have hk : bKp p (.inl (1, n, .inr (.inl f))) = K := (bKp_at hp _ _).trans hk
  have hcf : bCf W (bKp p (.inl (1, n, .inr (.inl f)))) (.inl (1, n, .inr (.inl f))) (.inl (1, n, .inr (.inl f'))) := by
    refine ⟨rfl, rfl, fun hj => ?_⟩
    rw [hk, hW] at hj
    cases hj
  have ht := bP_tag hH.2.2 ha (by decide)
  exact ⟨bH_set hH ha hcf (by rw [hk]; exact hg) (show bCm h (.inl (1, n, .inr (0, z), cs)) (.inl (1, n, .inr (.inl f'))) from ⟨_, rfl⟩) (bP_arr hH.2.2 ha ht.1 ht.2), bFr_set ha hcf⟩
/-- a row held by the class -/
theorem bRow {h : sHp} (hH : bH h) {s : Int32} (s1 : 0 ≤ s.toInt) (s2 : s.toInt ≤ 7) : ∃ (f : Nat → Option Nat) (p ep : Nat) (fs : List Value) (so sz : Int32) (el : Nat → Int64), h[1]? = some (.inl (3, 8, .inr (.inr (.inr (.inr f))))) ∧ va_rf (f s.toNatClampNeg) = .ref p ∧ h[p]? = some (.inr (7, fs)) ∧ fs[0]? = some (.int so) ∧ fs[1]? = some (.int sz) ∧ fs[2]? = some (.ref ep) ∧ 0 ≤ sz.toInt ∧ sz.toInt ≤ 100 ∧ h[ep]? = some (.inl (1, 100, .inr (.inl el))) ∧ bIn h 80 p ∧ ep < 79 ∧ bKp ep (.inr (0, [])) = 81 := by
  obtain ⟨c, ct, h1, h2, h3⟩ := bH_at hH (p := 1) (by decide)
  rw [bKp_at (by decide) c (.inr (0, [])), show bGam (bKp 1 (.inr (0, []))) = some (.inl (3, 8, .inr (2, 80), [])) from rfl] at h2
  cases h2
  obtain ⟨f, rfl, hf⟩ := h3
  have sn : (s.toNatClampNeg : Int) = s.toInt := by
    show ((s.toInt.toNat : Nat) : Int) = s.toInt
    omega
  obtain ⟨p, hp, hin⟩ := hf s.toNatClampNeg (by omega)
  obtain ⟨ci, fs, k1, k2, k3, k4, k5, -⟩ := bIn_obj (ci0 := 7) (tys := [.inl (.negSucc 0, .ofNat 3), .inl (.ofNat 0, .ofNat 100), .inr (2, 81)]) hH hin rfl
  cases k3 (by decide)
  obtain ⟨_, f0, so, rfl, -⟩ := k5 0 _ rfl
  obtain ⟨_, f1, sz, rfl, z1, z2⟩ := k5 1 _ rfl
  obtain ⟨_, f2, ep, rfl, hep⟩ := k5 2 _ rfl
  obtain ⟨c, m1, m2, m3, m4⟩ := bIn_arr (t := 1) (n := 100) (ty := .inr (0, 0)) (cs := []) hH hep rfl
  obtain ⟨el, rfl⟩ := m2
  have hlt : ep < 79 := by
    refine Classical.byContradiction fun z => ?_
    unfold bKp at m3
    rw [List.getElem?_eq_none_iff.mpr (show bKl.length ≤ ep from Nat.le_of_not_lt z)] at m3
    cases m3
  exact ⟨f, p, ep, fs, so, sz, el, h1, hp, k1, f0, f1, f2, z1, z2, m1, hin, hlt, (bKp_at hlt _ _).trans m3⟩
