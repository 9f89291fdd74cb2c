/-! ===== the reference's field kept and brought back, exactly ===== -/
def mL (J : Nat → Int32) : List Value := match mO J with
  | .inr (_, l) => l
  | _ => []
theorem mB_of {h : sHp} {m : MF} {K : Nat} {g : Nat → Int32} (M : MC h m) (hK : h[K]? = some (.inl (0, 180, .inl g))) (h6 : 66 < K) : bBk h K (mL m.1) m.2.1 m.2.2.1 m.2.2.2.1 m.2.2.2.2.1 m.2.2.2.2.2 g := by
  obtain ⟨a0, a1, a2, a3, a4, a5⟩ := M
  exact ⟨a0, a1, a2, a3, a4, a5, hK, h6, rfl, rfl, rfl, rfl, rfl, Nat.le_of_ble_eq_true rfl⟩
def svF (m : MF) (g : Nat → Int32) : Nat → Int32 := gS7 (gS m.2.1 m.2.2.1 m.2.2.2.1 m.2.2.2.2.1 m.2.2.2.2.2 g) (m.1 0) (m.1 1) (m.1 2) (m.1 3) (m.1 4) (m.1 5) (m.1 6)
theorem s_saveE {d : Nat} {h : sHp} {m : MF} {K : Nat} {g : Nat → Int32} (M : MC h m) (hK : h[K]? = some (.inl (0, 180, .inl g))) (h6 : 66 < K) : sDo (d + 2) 201 [.ref 60, .ref K, .int 0] h (fun r h' => r = none ∧ h' = h.set K (.inl (0, 180, .inl (svF m g)))) :=
  s_all_save (mB_of M hK h6) rfl rfl rfl rfl rfl rfl rfl ⟨rfl, rfl⟩
def bkJ (J g : Nat → Int32) : Nat → Int32 := upd (upd (upd (upd (upd (upd (upd J 0 (g 168)) 1 (g 169)) 2 (g 170)) 3 (g 171)) 4 (g 172)) 5 (g 173)) 6 (g 174)
def mfBack (m : MF) (g : Nat → Int32) : MF := (bkJ m.1 g, kb m.2.1 g 0 64, kb m.2.2.1 g 64 64, kb m.2.2.2.1 g 128 5, kb m.2.2.2.2.1 g 133 5, kb m.2.2.2.2.2 g 138 30)
theorem s_backE {d : Nat} {h : sHp} {m : MF} {K : Nat} {g : Nat → Int32} (M : MC h m) (hK : h[K]? = some (.inl (0, 180, .inl g))) (h6 : 66 < K) : sDo (d + 2) 201 [.ref 60, .ref K, .int 1] h (fun r h' => r = none ∧ MC h' (mfBack m g) ∧ mE h h') := by
  refine s_all_back (by decide) (mB_of M hK h6) ⟨rfl, ?_, ?_⟩
  · exact MC_0 (f := bkJ m.1 g) (MC_5 (f := kb m.2.2.2.2.2 g 138 30) (MC_4 (f := kb m.2.2.2.2.1 g 133 5) (MC_3 (f := kb m.2.2.2.1 g 128 5) (MC_2 (f := kb m.2.2.1 g 64 64) (MC_1 (f := kb m.2.1 g 0 64) M)))))
  · exact mE_set (mE_set (mE_set (mE_set (mE_set (mE_set mE_rfl (by omega)) (by omega)) (by omega)) (by omega)) (by omega)) (by omega)
/-- the ints kept come back -/
theorem bk_sv {m m' : MF} {g : Nat → Int32} : ∀ j, j < 7 → (mfBack m' (svF m g)).1 j = m.1 j := by
  intro j hj
  match j, hj with
  | 0, _ => rfl
  | 1, _ => rfl
  | 2, _ => rfl
  | 3, _ => rfl
  | 4, _ => rfl
  | 5, _ => rfl
  | 6, _ => rfl
  | k + 7, hj => exact absurd hj (by omega)
