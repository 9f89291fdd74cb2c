/-! ===== by hand: what the late ones need ===== -/
theorem bTL_1 {h : sHp} {t0 : Option bTy} {vL : sLo} (q : bTL h [t0] vL) : ∃ a0, vL = [a0] := by
  obtain ⟨hl, -⟩ := q
  have hl : 1 = vL.length := hl
  match vL, hl with
  | [a0], _ => exact ⟨_, rfl⟩
theorem bTL_5 {h : sHp} {t0 t1 t2 t3 t4 : Option bTy} {vL : sLo} (q : bTL h [t0, t1, t2, t3, t4] vL) : ∃ a0 a1 a2 a3 a4, vL = [a0, a1, a2, a3, a4] := by
  obtain ⟨hl, -⟩ := q
  have hl : 5 = vL.length := hl
  match vL, hl with
  | [a0, a1, a2, a3, a4], _ => exact ⟨_, _, _, _, _, rfl⟩
theorem bTL_7 {h : sHp} {t0 t1 t2 t3 t4 t5 t6 : Option bTy} {vL : sLo} (q : bTL h [t0, t1, t2, t3, t4, t5, t6] vL) : ∃ a0 a1 a2 a3 a4 a5 a6, vL = [a0, a1, a2, a3, a4, a5, a6] := by
  obtain ⟨hl, -⟩ := q
  have hl : 7 = vL.length := hl
  match vL, hl with
  | [a0, a1, a2, a3, a4, a5, a6], _ => exact ⟨_, _, _, _, _, _, _, rfl⟩
