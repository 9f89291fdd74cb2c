/-! ===== by hand: a square of a set; a template's locals ===== -/
theorem bit_ix : ∀ i, i < 64 → ((Int32.ofNat i).toInt64 &&& 63) = Int64.ofNat i ∧ ((Int64.ofNat i).toBitVec.smod 64) = BitVec.ofNat 64 i ∧ (BitVec.ofNat 64 i).toNat = i := by decide +kernel
theorem i32_of {q : Int32} {i : Nat} (h : q.toInt = i) (hi : i < 64) : q = Int32.ofNat i := by
  apply Int32.toInt_inj.mp
  rw [h, Int32.toInt_ofNat_of_lt (by omega)]
theorem bit_has {x : Int64} {q : Int32} {i : Nat} (h : q.toInt = i) (hi : i < 64) : ((x >>> (q.toInt64 &&& 63)) &&& Int64.ofNat 1) = Int64.ofNat (if x.toBitVec.getLsbD i then 1 else 0) := by
  rw [i32_of h hi]
  obtain ⟨e1, e2, e3⟩ := bit_ix i hi
  rw [e1]
  apply Int64.toBitVec_inj.mp
  have e4 : ((x >>> Int64.ofNat i) &&& Int64.ofNat 1).toBitVec = (x.toBitVec.sshiftRight' ((Int64.ofNat i).toBitVec.smod 64)) &&& 1#64 := rfl
  rw [e4, e2]
  have e5 : x.toBitVec.sshiftRight' (BitVec.ofNat 64 i) = x.toBitVec.sshiftRight i := by
    unfold BitVec.sshiftRight'
    rw [e3]
  rw [e5]
  apply BitVec.eq_of_getLsbD_eq
  intro j hj
  have e6 : (Int64.ofNat (if x.toBitVec.getLsbD i then 1 else 0)).toBitVec = if x.toBitVec.getLsbD i then 1#64 else 0#64 := by
    split <;> rfl
  rw [e6, BitVec.getLsbD_and, BitVec.getLsbD_one, BitVec.getLsbD_sshiftRight]
  by_cases hz : j = 0
  · subst hz
    cases hb : x.toBitVec.getLsbD i with
    | true => simp [hb, hi]
    | false => simp [hb, hi]
  · cases hb : x.toBitVec.getLsbD i with
    | true => simp [hz]
    | false => simp [hz]
/-- has -/
theorem s_has {d : Nat} {h : sHp} {a : Nat} (x : Int64) {q : Int32} {i : Nat} (hq : q.toInt = i) (hi : i < 64) : sDo (d + 1) 177 [.ref a, .long x, .int q] h (fun r h' => h' = h ∧ r = some (.int (if x.toBitVec.getLsbD i then 1 else 0))) := by
  have hb := bit_has (x := x) hq hi
  refine sDo_of (d := d) (nL := 4) (L := [some (.ref a), some (.long x), none, some (.int q)]) rfl rfl ?_
  refine g_lload_n (i := 1) rfl rfl ?_
  refine g_iload_n (i := 3) rfl rfl ?_
  refine g_lshr rfl ?_
  refine g_lconst (n := 1) rfl ?_
  refine g_land rfl ?_
  refine g_lconst (n := 1) rfl ?_
  refine g_lcmp rfl ?_
  show sGo none 177 _ 7 [some (.ref a), some (.long x), none, some (.int q)] [.int (lg_cmp ((x >>> (q.toInt64 &&& 63)) &&& (Int64.ofNat 1)) (Int64.ofNat 1))] _ _
  rw [hb]
  refine g_if_ne 14 rfl rfl (fun hc => ?_) (fun hc => ?_)
  · skip
    refine g_iconst (n := 0) rfl ?_
    refine g_ireturn (ty := .boolean) rfl rfl (by decide) ?_
    cases hz : x.toBitVec.getLsbD i with
    | true =>
      rw [hz] at hc
      exact absurd hc (by decide)
    | false => exact ⟨rfl, rfl⟩
  · skip
    refine g_iconst (n := 1) rfl ?_
    refine g_goto 15 rfl rfl ?_
    refine g_ireturn (ty := .boolean) rfl rfl (by decide) ?_
    cases hz : x.toBitVec.getLsbD i with
    | true => exact ⟨rfl, rfl⟩
    | false =>
      rw [hz] at hc
      exact absurd hc (by decide)
theorem bit_ex {b : BitVec 64} (h : b ≠ 0#64) : ∃ i, i < 64 ∧ b.getLsbD i = true := by
  refine Classical.byContradiction fun hn => h ?_
  apply BitVec.eq_of_getLsbD_eq
  intro i hi
  rw [BitVec.getLsbD_zero]
  cases hb : b.getLsbD i with
  | false => rfl
  | true => exact absurd ⟨i, hi, hb⟩ hn
/-- the lists of a template's length -/
theorem bTL_10 {h : sHp} {t0 t1 t2 t3 t4 t5 t6 t7 t8 t9 : Option bTy} {vL : sLo} (q : bTL h [t0, t1, t2, t3, t4, t5, t6, t7, t8, t9] vL) : ∃ a0 a1 a2 a3 a4 a5 a6 a7 a8 a9, vL = [a0, a1, a2, a3, a4, a5, a6, a7, a8, a9] := by
  obtain ⟨hl, -⟩ := q
  have hl : 10 = vL.length := hl
  match vL, hl with
  | [a0, a1, a2, a3, a4, a5, a6, a7, a8, a9], _ => exact ⟨_, _, _, _, _, _, _, _, _, _, rfl⟩
theorem bPs_int {h : sHp} {lo hi : Int} {x : Int32} (h1 : lo ≤ x.toInt) (h2 : x.toInt ≤ hi) : bPs h [(some (.inl (lo, hi)), [])] (some (.int x)) := ⟨_, List.mem_cons_self, ⟨_, rfl, x, rfl, h1, h2⟩, fun e he => by cases he⟩
theorem bPs_none {h : sHp} : bPs h [(none, [])] none := ⟨_, List.mem_cons_self, rfl, fun e he => by cases he⟩
theorem bPs_long {h : sHp} {x : Int64} : bPs h [(some (.inr (0, 0)), [])] (some (.long x)) := ⟨_, List.mem_cons_self, ⟨_, rfl, x, rfl⟩, fun e he => by cases he⟩
