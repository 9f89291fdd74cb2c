/-! ===== the law ===== -/
def aEnd (r : Option Value) (h : sHp) : Prop := r = some (.int 1) ∧ h.length ≤ 600000 ∧ sSl h ≤ 7302250
def bSz (ct : bCt) : Nat := match ct with
  | .inl (_, n, _, _) => n
  | .inr (_, tys) => tys.length
theorem bSz_cm {h : sHp} {ct : bCt} {c : va_E} (q : bCm h ct c) : sSz c = bSz ct := by
  unfold bCm at q
  split at q
  · obtain ⟨f, rfl, -⟩ := q; rfl
  · obtain ⟨f, rfl⟩ := q; rfl
  · obtain ⟨f, rfl, -⟩ := q; rfl
  · obtain ⟨fs, rfl, e, -⟩ := q; exact e
theorem bSz_all : ∀ K, K < 128 → (match bGam K with
    | some ct => Nat.ble (bSz ct) 1000
    | none => true) = true := by decide +kernel
theorem sSl_b : ∀ l : sHp, (∀ c ∈ l, sSz c ≤ 1000) → sSl l ≤ 1000 * l.length := by
  intro l
  induction l with
  | nil => intro _; exact Nat.zero_le _
  | cons c t ih =>
    intro h
    have h1 := h c List.mem_cons_self
    have h2 := ih (fun c' hc => h c' (List.mem_cons_of_mem _ hc))
    show sSz c + sSl t ≤ 1000 * (t.length + 1)
    omega
theorem bH_sl {h : sHp} (hH : bH h) : sSl h ≤ 1000 * h.length := by
  refine sSl_b h (fun c hc => ?_)
  obtain ⟨p, hp⟩ := List.getElem?_of_mem hc
  obtain ⟨ct, h1, h2⟩ := hH.2.1 p c hp
  rw [bSz_cm h2]
  have h3 := bSz_all _ (bGam_lt h1)
  rw [h1] at h3
  exact Nat.le_of_ble_eq_true h3
theorem g_scrI {L : Nat} {xs : Nat → Int32} {k d pc : Nat} {Lo : sLo} {st : List Value} {h : sHp} {Q : Option Value → sHp → Prop} {i : Int32} (hF : sFk k pc = some .iaload) (h1 : 0 ≤ i.toInt) (h2 : i.toInt < L) (g : sGo (some (L, xs)) k d (pc + 1) Lo (.int (xs i.toNatClampNeg) :: st) h Q) : sGo (some (L, xs)) k d pc Lo (.int i :: .ref 1000000 :: st) h Q := by
  refine go_scr (st1 := .int (xs i.toNatClampNeg) :: st) hF rfl ?_ g
  show (if 1000000 = 1000000 ∧ ¬ (i < 0 ∨ L ≤ i.toNatClampNeg) then some (Value.int (xs i.toNatClampNeg) :: st) else none) = _
  exact if_pos ⟨rfl, i_in h1 h2⟩
theorem g_scrL {L : Nat} {xs : Nat → Int32} {k d pc : Nat} {Lo : sLo} {st : List Value} {h : sHp} {Q : Option Value → sHp → Prop} (hF : sFk k pc = some .arraylength) (g : sGo (some (L, xs)) k d (pc + 1) Lo (.int (Int32.ofNat L) :: st) h Q) : sGo (some (L, xs)) k d pc Lo (.ref 1000000 :: st) h Q := by
  refine go_scr (st1 := .int (Int32.ofNat L) :: st) hF rfl ?_ g
  show (if 1000000 = 1000000 then some (Value.int (Int32.ofNat L) :: st) else none) = _
  exact if_pos rfl
/-- the law's places: its locals there -/
def lwD (D : List (Nat × Nat × Int)) (j : Nat) : Bool := D.any (fun e => Nat.beq e.1 j && (Nat.beq e.2.1 0 && decide (e.2.2 = 6)))
def lwK (cs pc : Nat) (L : bLo) (st : List bV) (S : bS) : Bool := st.isEmpty && (match L with
  | [some (.inr (t0, K0)), some (.inr (t1, K1)), some (.inr (t2, K2)), some (.inl (.inl j))] => (Nat.beq t0 2 && (Nat.beq K0 300 && (Nat.beq t1 2 && (Nat.beq K1 0 && (Nat.beq t2 2 && Nat.beq K2 60))))) && ((Nat.beq pc 18 && (lwD S.2.2.2.1 j && Nat.ble S.2.1 2)) || (Nat.beq pc cs && (Nat.beq j 0 && Nat.beq S.2.1 0)))
  | _ => false)
def lwS : bS := (1, 0, [(0, 0, 3066)], [], [], [], [])
def lwL : bLo := [some (.inr (2, 300)), some (.inr (2, 0)), some (.inr (2, 60)), some (.inl (.inl 0))]
def lwT : List bCn := [cn_X11_act_0, cn_X11_better_0, cn_X11_choose_0, cn_X11_copy_0, cn_X11_cut_0, cn_X11_element_0, cn_X11_envies_0, cn_X11_evens_0, cn_X11_fault_0, cn_X11_faulty_0, cn_X11_field_0, cn_X11_fits_0, cn_X11_fond_0, cn_X11_hedge_0, cn_X11_heirOf_0, cn_X11_heir_0, cn_X11_holds_0, cn_X11_image_0, cn_X11_judge_0, cn_X11_lay_0, cn_X11_mend_0, cn_X11_old_0, cn_X11_own_0, cn_X11_owner_0, cn_X11_owners_0, cn_X11_parts_0, cn_X11_piece_0, cn_X11_place_0, cn_X11_restore_0, cn_X11_row_0, cn_X11_says_0, cn_X11_set_0, cn_X11_side_0, cn_X11_size_0, cn_X11_soil_0, cn_X11_status_0, cn_X11_sure_0, cn_X11_three_0, cn_X11_trace_0, cn_X11_two_0, cn_X11_whose_0, cn_X11_worth_0, cn_X11_worths_0, cn_X12_act_0, cn_X12_better_0, cn_X12_choose_0, cn_X12_copy_0, cn_X12_cut_0, cn_X12_element_0, cn_X12_envies_0, cn_X12_evens_0, cn_X12_fault_0, cn_X12_faulty_0, cn_X12_field_0, cn_X12_fits_0, cn_X12_fond_0, cn_X12_hedge_0, cn_X12_heirOf_0, cn_X12_heir_0, cn_X12_holds_0, cn_X12_image_0, cn_X12_judge_0, cn_X12_lay_0, cn_X12_mend_0, cn_X12_old_0, cn_X12_own_0, cn_X12_owner_0, cn_X12_owners_0, cn_X12_parts_0, cn_X12_piece_0, cn_X12_place_0, cn_X12_restore_0, cn_X12_row_0, cn_X12_says_0, cn_X12_set_0, cn_X12_side_0, cn_X12_size_0, cn_X12_soil_0, cn_X12_status_0, cn_X12_sure_0, cn_X12_three_0, cn_X12_trace_0, cn_X12_two_0, cn_X12_whose_0, cn_X12_worth_0, cn_X12_worths_0]
theorem lwT_ok : bAH lwT := (bAH_cons ch_X11_act_0 (bAH_cons ch_X11_better_0 (bAH_cons ch_X11_choose_0 (bAH_cons ch_X11_copy_0 (bAH_cons ch_X11_cut_0 (bAH_cons ch_X11_element_0 (bAH_cons ch_X11_envies_0 (bAH_cons ch_X11_evens_0 (bAH_cons ch_X11_fault_0 (bAH_cons ch_X11_faulty_0 (bAH_cons ch_X11_field_0 (bAH_cons ch_X11_fits_0 (bAH_cons ch_X11_fond_0 (bAH_cons ch_X11_hedge_0 (bAH_cons ch_X11_heirOf_0 (bAH_cons ch_X11_heir_0 (bAH_cons ch_X11_holds_0 (bAH_cons ch_X11_image_0 (bAH_cons ch_X11_judge_0 (bAH_cons ch_X11_lay_0 (bAH_cons ch_X11_mend_0 (bAH_cons ch_X11_old_0 (bAH_cons ch_X11_own_0 (bAH_cons ch_X11_owner_0 (bAH_cons ch_X11_owners_0 (bAH_cons ch_X11_parts_0 (bAH_cons ch_X11_piece_0 (bAH_cons ch_X11_place_0 (bAH_cons ch_X11_restore_0 (bAH_cons ch_X11_row_0 (bAH_cons ch_X11_says_0 (bAH_cons ch_X11_set_0 (bAH_cons ch_X11_side_0 (bAH_cons ch_X11_size_0 (bAH_cons ch_X11_soil_0 (bAH_cons ch_X11_status_0 (bAH_cons ch_X11_sure_0 (bAH_cons ch_X11_three_0 (bAH_cons ch_X11_trace_0 (bAH_cons ch_X11_two_0 (bAH_cons ch_X11_whose_0 (bAH_cons ch_X11_worth_0 (bAH_cons ch_X11_worths_0 (bAH_cons ch_X12_act_0 (bAH_cons ch_X12_better_0 (bAH_cons ch_X12_choose_0 (bAH_cons ch_X12_copy_0 (bAH_cons ch_X12_cut_0 (bAH_cons ch_X12_element_0 (bAH_cons ch_X12_envies_0 (bAH_cons ch_X12_evens_0 (bAH_cons ch_X12_fault_0 (bAH_cons ch_X12_faulty_0 (bAH_cons ch_X12_field_0 (bAH_cons ch_X12_fits_0 (bAH_cons ch_X12_fond_0 (bAH_cons ch_X12_hedge_0 (bAH_cons ch_X12_heirOf_0 (bAH_cons ch_X12_heir_0 (bAH_cons ch_X12_holds_0 (bAH_cons ch_X12_image_0 (bAH_cons ch_X12_judge_0 (bAH_cons ch_X12_lay_0 (bAH_cons ch_X12_mend_0 (bAH_cons ch_X12_old_0 (bAH_cons ch_X12_own_0 (bAH_cons ch_X12_owner_0 (bAH_cons ch_X12_owners_0 (bAH_cons ch_X12_parts_0 (bAH_cons ch_X12_piece_0 (bAH_cons ch_X12_place_0 (bAH_cons ch_X12_restore_0 (bAH_cons ch_X12_row_0 (bAH_cons ch_X12_says_0 (bAH_cons ch_X12_set_0 (bAH_cons ch_X12_side_0 (bAH_cons ch_X12_size_0 (bAH_cons ch_X12_soil_0 (bAH_cons ch_X12_status_0 (bAH_cons ch_X12_sure_0 (bAH_cons ch_X12_three_0 (bAH_cons ch_X12_trace_0 (bAH_cons ch_X12_two_0 (bAH_cons ch_X12_whose_0 (bAH_cons ch_X12_worth_0 (bAH_cons ch_X12_worths_0 bAH_nil))))))))))))))))))))))))))))))))))))))))))))))))))))))))))))))))))))))))))))))))))))))
def lwV (i : Int32) : sLo := [some (.ref 1000000), some (.ref 0), some (.ref 60), some (.int i)]
theorem lwK_ok {cs pc : Nat} {L : bLo} {st : List bV} {S : bS} {ι : List Value} {h : sHp} {vL : sLo} {vst : List Value} {x0 : Int32} (g : lwK cs pc L st S = true) (hH : bH h) (q : bmS ι h S) (hL : bmL ι h L vL) (hs : bmT1 ι h st vst) (h0 : ι[0]? = some (.int x0)) : vst = [] ∧ ((pc = 18 ∧ S.2.1 ≤ 2 ∧ ∃ x : Int32, vL = lwV x ∧ x.toInt = x0.toInt + 6) ∨ (pc = cs ∧ S.2.1 = 0 ∧ vL = lwV x0)) := by
  obtain ⟨g1, g2⟩ := aBa g
  have e0 : st = [] := List.isEmpty_iff.mp g1
  subst e0
  refine ⟨bmT1_nil hs, ?_⟩
  clear g g1
  split at g2
  · rename_i t0 K0 t1 K1 t2 K2 j
    obtain ⟨ga, gb⟩ := aBa g2
    obtain ⟨a1, ga⟩ := aBa ga
    obtain ⟨a2, ga⟩ := aBa ga
    obtain ⟨a3, ga⟩ := aBa ga
    obtain ⟨a4, ga⟩ := aBa ga
    obtain ⟨a5, a6⟩ := aBa ga
    cases aBt a1
    cases aBt a2
    cases aBt a3
    cases aBt a4
    cases aBt a5
    cases aBt a6
    obtain ⟨hl, hv⟩ := hL
    obtain ⟨w0, e0, q0⟩ := hv 0 _ rfl
    obtain ⟨w1, e1, q1⟩ := hv 1 _ rfl
    obtain ⟨w2, e2, q2⟩ := hv 2 _ rfl
    obtain ⟨w3, e3, q3⟩ := hv 3 _ rfl
    obtain ⟨p0, rfl, p0i⟩ := q0
    obtain ⟨p1, rfl, p1i⟩ := q1
    obtain ⟨p2, rfl, p2i⟩ := q2
    obtain ⟨x, rfl, q3⟩ := q3
    have hp0 : p0 = 1000000 := by
      rcases p0i with ⟨c, k1, k2⟩ | ⟨-, e⟩ | ⟨e, -⟩
      · obtain ⟨ct, k3, -⟩ := hH.2.1 p0 c k1
        rcases bKK_cases k2 with e | ⟨e, -⟩
        · rw [e] at k3
          exact absurd (bGam_lt k3) (by decide)
        · cases e
      · exact e
      · omega
    have hp1 := (bIn_one (by decide) (by decide +kernel) p1i).1
    have hp2 := (bIn_one (by decide) (by decide +kernel) p2i).1
    subst hp0 hp1 hp2
    have hvL : vL = lwV x := by
      have hl : 4 = vL.length := hl
      match vL, hl, e0, e1, e2, e3 with
      | [b0, b1, b2, b3], _, e0, e1, e2, e3 =>
        cases e0
        cases e1
        cases e2
        cases e3
        rfl
    rw [Bool.or_eq_true] at gb
    rcases gb with gb | gb
    · obtain ⟨b1, gb⟩ := aBa gb
      obtain ⟨b2, b3⟩ := aBa gb
      refine Or.inl ⟨aBt b1, Nat.le_of_ble_eq_true b3, x, hvL, ?_⟩
      obtain ⟨ed, hed, b2⟩ := List.any_eq_true.mp b2
      obtain ⟨c1, b2⟩ := aBa b2
      obtain ⟨c2, c3⟩ := aBa b2
      have c3 := of_decide_eq_true c3
      obtain ⟨y, z, d1, d2, d3⟩ := q.2.2.1 ed hed
      rw [aBt c1] at d1
      rw [aBt c2, h0] at d2
      cases d2
      have q3 : ι[j]? = some (.int x) := q3
      rw [q3] at d1
      cases d1
      omega
    · obtain ⟨b1, gb⟩ := aBa gb
      obtain ⟨b2, b3⟩ := aBa gb
      refine Or.inr ⟨aBt b1, aBt b3, ?_⟩
      have q3 : ι[j]? = some (.int x) := q3
      rw [aBt b2, h0] at q3
      cases q3
      exact hvL
  · cases g2
