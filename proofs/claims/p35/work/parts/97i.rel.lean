/-! ===== owners ===== -/
def ovV (T : Nat → Int32) (n q : Nat) : Int32 := if q < n then T q else Int32.ofInt (-1)
noncomputable def ovO (N : Nat) (T : Nat → Int32) (n q : Nat) : Int32 := @ite _ (∃ k, okO N (ovV T n q) k) (Classical.propDecidable _) (ovV T n q) (Int32.ofInt (-1))
theorem ovO_y {N n q : Nat} {T : Nat → Int32} (h : ∃ k, okO N (ovV T n q) k) : ovO N T n q = ovV T n q := @if_pos _ (Classical.propDecidable _) h _ _ _
theorem ovO_n {N n q : Nat} {T : Nat → Int32} (h : ¬ ∃ k, okO N (ovV T n q) k) : ovO N T n q = Int32.ofInt (-1) := @if_neg _ (Classical.propDecidable _) h _ _ _
theorem ovO_ok {N n q : Nat} {T : Nat → Int32} : ∃ k, okO N (ovO N T n q) k := by
  by_cases z : ∃ k, okO N (ovV T n q) k
  · rw [ovO_y z]; exact z
  · rw [ovO_n z]; exact ⟨6, Or.inr (Or.inl ⟨rfl, rfl⟩)⟩
def hcN (N : Nat) (ow : Nat → Int32) : Nat → Nat
  | 0 => 0
  | q + 1 => hcN N ow q + (if 0 ≤ (ow q).toInt ∧ (ow q).toInt < (N : Int) then 1 else 0)
theorem hcN_le {N : Nat} {ow : Nat → Int32} : ∀ q, hcN N ow q ≤ q := by
  intro q
  induction q with
  | zero => exact Nat.le_refl _
  | succ q ih =>
    show hcN N ow q + _ ≤ q + 1
    split <;> omega
theorem hc_cnt {S : Nat → Int64} {ow : Nat → Int32} {n N : Nat} (hn : n ≤ 64) (hN : N ≤ 5) (P : PT S ow n) (ho : ∀ q, q < n → ∃ k, okO N (ow q) k) : cnt ((stO (fun _ => true) n &&& (S 5 ^^^ Int64.ofNat 18446744073709551615)) &&& (S 6 ^^^ Int64.ofNat 18446744073709551615)) = hcN N ow n := by
  have e9 : (9 : Int32).toInt = 9 := rfl
  have em : (-1 : Int32).toInt = -1 := rfl
  have b : ∀ q, q < n → bt ((stO (fun _ => true) n &&& (S 5 ^^^ Int64.ofNat 18446744073709551615)) &&& (S 6 ^^^ Int64.ofNat 18446744073709551615)) q = decide (0 ≤ (ow q).toInt ∧ (ow q).toInt < (N : Int)) := fun q hq => by
    have e2 : bt ((stO (fun _ => true) n &&& (S 5 ^^^ lM1)) &&& (S 6 ^^^ lM1)) q = decide (0 ≤ (ow q).toInt ∧ (ow q).toInt < (N : Int)) := by
      rw [bt_and, bt_and, bt_not, bt_not, bt_stO _ _ hn, PT_bt hn P (by decide) hq, PT_bt hn P (by decide) hq, decide_eq_true hq, decide_eq_true (show q < 64 by omega), Bool.true_and, Bool.true_and, Bool.true_and, Bool.true_and]
      obtain ⟨k, ⟨-, e⟩ | ⟨-, e⟩ | ⟨hk, e⟩⟩ := ho q hq
      · rw [e, decide_eq_true (show (9 : Int32) = cdS 5 from rfl), decide_eq_false (show ¬ (0 ≤ (9 : Int32).toInt ∧ (9 : Int32).toInt < (N : Int)) by rw [e9]; omega)]; rfl
      · rw [e, decide_eq_true (show (-1 : Int32) = cdS 6 from rfl), decide_eq_false (show ¬ (0 ≤ (-1 : Int32).toInt ∧ (-1 : Int32).toInt < (N : Int)) by rw [em]; omega), Bool.not_true, Bool.and_false]
      · have ek := ofN_toInt (n := k) (by omega)
        rw [e, ← cdS_lt (show k < 5 by omega), decide_eq_false (show ¬ cdS k = cdS 5 from fun z => by have := cdS_inj (by omega) (by decide) z; omega), decide_eq_false (show ¬ cdS k = cdS 6 from fun z => by have := cdS_inj (by omega) (by decide) z; omega), cdS_lt (show k < 5 by omega), decide_eq_true (show 0 ≤ (Int32.ofNat k).toInt ∧ (Int32.ofNat k).toInt < (N : Int) by rw [ek]; omega)]; rfl
    exact e2
  obtain ⟨d, hd⟩ : ∃ d, n + d = 64 := ⟨64 - n, by omega⟩
  unfold cnt
  rw [← hd, cntB_cut d (by omega) (fun i hi h64 => by rw [bt_and, bt_and, bt_stO _ _ hn, decide_eq_false (show ¬ i < n by omega)]; rfl)]
  have key : ∀ k, k ≤ n → cntB ((stO (fun _ => true) n &&& (S 5 ^^^ Int64.ofNat 18446744073709551615)) &&& (S 6 ^^^ Int64.ofNat 18446744073709551615)) k = hcN N ow k := by
    intro k
    induction k with
    | zero => intro _; rfl
    | succ k ih =>
      intro hk
      show cntB _ k + (if bt _ k = true then 1 else 0) = hcN N ow k + _
      rw [ih (by omega), b k (by omega)]
      by_cases z : 0 ≤ (ow k).toInt ∧ (ow k).toInt < (N : Int)
      · rw [decide_eq_true z, if_pos rfl, if_pos z]
      · rw [decide_eq_false z, if_neg z, if_neg (by decide)]
  exact key n (Nat.le_refl _)
theorem s_heirs11 {d : Nat} {h : sHp} {c : CF} {W H : Nat} (hd : 2 ≤ d) (F : FC h 5 c) (g : gdF c W H) : sDo d 42 [.ref 5] h (fun r h' => h' = h ∧ r = some (.int (Int32.ofNat (cnt ((stO (fun _ => true) (W * H) &&& (c.2.2.2.2.2.2 5 ^^^ Int64.ofNat 18446744073709551615)) &&& (c.2.2.2.2.2.2 6 ^^^ Int64.ofNat 18446744073709551615)))))) := by
  have g2 : c.2.1 2 = stO (fun _ => true) (W * H) := g.2.2.2.2.2.2.1
  have e5 : (Int32.ofInt 5).toInt = ((5 : Nat) : Int) := rfl
  have e6 : (Int8.ofInt 6).toInt32.toInt = ((6 : Nat) : Int) := rfl
  refine sDo_of1 (nL := 1) (L := [some (.ref 5)]) (by omega) rfl rfl ?_
  refine g_aload_n (i := 0) rfl rfl ?_
  refine g_getfield (v := .long (c.2.1 2)) rfl F.1 (by decide) rfl ?_
  refine g_aload_n (i := 0) rfl rfl ?_
  refine g_getfield (v := .ref (5 + 10)) rfl F.1 (by decide) rfl ?_
  refine g_iconst (n := 5) rfl ?_
  refine g_laload (n := 7) (f := c.2.2.2.2.2.2) rfl F.2.2.2.2.2.2 (i_in (by rw [e5]; decide) (by rw [e5]; decide)) ?_
  rw [i_nat e5]
  refine g_ldc2_w (j := 18446744073709551615) rfl ?_
  refine g_lxor rfl ?_
  refine g_land rfl ?_
  refine g_aload_n (i := 0) rfl rfl ?_
  refine g_getfield (v := .ref (5 + 10)) rfl F.1 (by decide) rfl ?_
  refine g_bipush (n := 6) rfl ?_
  refine g_laload (n := 7) (f := c.2.2.2.2.2.2) rfl F.2.2.2.2.2.2 (i_in (by rw [e6]; decide) (by rw [e6]; decide)) ?_
  rw [i_nat e6]
  refine g_ldc2_w (j := 18446744073709551615) rfl ?_
  refine g_lxor rfl ?_
  refine g_land rfl ?_
  refine g_static1 (Qc := fun r h' => h' = h ∧ r = some (.int (Int32.ofNat (cnt ((((c.2.1 2) &&& ((c.2.2.2.2.2.2 5) ^^^ (Int64.ofNat 18446744073709551615))) &&& ((c.2.2.2.2.2.2 6) ^^^ (Int64.ofNat 18446744073709551615)))))))) rfl (by decide) rfl (Nat.le_of_ble_eq_true rfl) (s_bitCount (by omega)) (fun r h hq9 => ?_)
  obtain ⟨rfl, rfl⟩ := hq9
  refine g_ireturn (ty := .int) rfl rfl rfl ?_
  exact ⟨rfl, by rw [g2]⟩
theorem s_ows11_go {d : Nat} {h : sHp} {ik tf : Int32} {c : CF} {s : Sg} {f : Nat → Option Nat} {sh ot : Int32} {S n : Nat} {T el : Nat → Int64} {Q : Option Value → sHp → Prop} (hd : 4 ≤ d) (h0 : h[0]? = some (cO ik tf)) (F : FC h 5 c) (g : gdF c s.1 s.2.1) (sI : sgI c s) (a1 : h[1]? = some (.inl (3, 8, .inr (.inr (.inr (.inr f)))))) (hs : sh.toInt = S) (hS : S < 8) (hf : f S = some (44 + 2 * S)) (b1 : h[44 + 2 * S]? = some (.inr (7, [.int ot, .int (Int32.ofNat n), .ref (45 + 2 * S)]))) (b2 : h[45 + 2 * S]? = some (.inl (1, 100, .inr (.inl el)))) (hn1 : n ≤ 100) (h42 : h[42]? = some (.inl (1, 7, .inr (.inl T)))) (hQ : ∀ (x : Int32) (o4 : Option Value), sGo none 135 d 107 [some (.ref 0), some (.int sh), some (.int 0), some (.int x), o4] [] (h.set 42 (.inl (1, 7, .inr (.inl (fun j => if j < 7 then stO (fun q => decide ((ovO s.2.2 (tx el n) n) q = cdS j)) (s.1 * s.2.1) else T j))))) Q) : ∀ (fu k : Nat) (o4 : Option Value), k + fu = s.1 * s.2.1 → sGo none 135 d 25 [some (.ref 0), some (.int sh), some (.int 0), some (.int (Int32.ofNat k)), o4] [] (h.set 42 (.inl (1, 7, .inr (.inl (fun j => if j < 7 then stO (fun q => decide ((ovO s.2.2 (tx el n) n) q = cdS j)) k else T j))))) Q := by
  have hn := gdF_n g
  have n5 := sI.2.2.2.2.2.2.2
  have ew : (c.1 0 * c.1 1).toInt = ((s.1 * s.2.1 : Nat) : Int) := by
    obtain ⟨g0, g1, w2, w8, h2, h8, -⟩ := g
    exact n_mul (by rw [g0]; exact ofN_toInt (by omega)) (by rw [g1]; exact ofN_toInt (by omega)) (by omega)
  have gS : va_rf (f sh.toNatClampNeg) = .ref (44 + 2 * S) := by rw [i_nat hs, hf]; rfl
  intro fu
  induction fu with
  | zero =>
    intro k o4 hk
    have ek := ofN_toInt (n := k) (by omega)
    have eW : s.1 * s.2.1 = k := by omega
    have z0 : (h.set 42 (.inl (1, 7, .inr (.inl (fun j => if j < 7 then stO (fun q => decide ((ovO s.2.2 (tx el n) n) q = cdS j)) k else T j)))))[0]? = some (cO ik tf) := by rw [s_set_ne (by decide)]; exact h0
    have F0 : FC (h.set 42 (.inl (1, 7, .inr (.inl (fun j => if j < 7 then stO (fun q => decide ((ovO s.2.2 (tx el n) n) q = cdS j)) k else T j))))) 5 c := FC_out (q := 42) F (by omega)
    rw [eW] at hQ
    refine g_iload_n (i := 3) rfl rfl ?_
    refine g_aload_n (i := 0) rfl rfl ?_
    refine g_getfield (v := .ref 5) rfl z0 (by decide) rfl ?_
    refine g_virt0 (Qc := fun r h' => h' = (h.set 42 (.inl (1, 7, .inr (.inl (fun j => if j < 7 then stO (fun q => decide ((ovO s.2.2 (tx el n) n) q = cdS j)) k else T j))))) ∧ r = some (.int (c.1 0 * c.1 1))) rfl (by decide) rfl F0.1 rfl (Nat.le_of_ble_eq_true rfl) (by rw [show d = (d - 1) + 1 by omega]; exact s_squares (d := d - 1) F0) (fun r9 h9 hq9 => ?_)
    obtain ⟨rfl, rfl⟩ := hq9
    refine g_icmp_ge 107 rfl rfl (fun _ => ?_) (fun hc => absurd hc (by rw [i_le, ew, ek]; omega))
    exact hQ _ _
  | succ fu ih =>
    intro k o4 hk
    have ek := ofN_toInt (n := k) (by omega)
    have z0 : (h.set 42 (.inl (1, 7, .inr (.inl (fun j => if j < 7 then stO (fun q => decide ((ovO s.2.2 (tx el n) n) q = cdS j)) k else T j)))))[0]? = some (cO ik tf) := by rw [s_set_ne (by decide)]; exact h0
    have F0 : FC (h.set 42 (.inl (1, 7, .inr (.inl (fun j => if j < 7 then stO (fun q => decide ((ovO s.2.2 (tx el n) n) q = cdS j)) k else T j))))) 5 c := FC_out (q := 42) F (by omega)
    have c1 : (h.set 42 (.inl (1, 7, .inr (.inl (fun j => if j < 7 then stO (fun q => decide ((ovO s.2.2 (tx el n) n) q = cdS j)) k else T j)))))[1]? = some (.inl (3, 8, .inr (.inr (.inr (.inr f))))) := by rw [s_set_ne (by decide)]; exact a1
    have d1 : (h.set 42 (.inl (1, 7, .inr (.inl (fun j => if j < 7 then stO (fun q => decide ((ovO s.2.2 (tx el n) n) q = cdS j)) k else T j)))))[44 + 2 * S]? = some (.inr (7, [.int ot, .int (Int32.ofNat n), .ref (45 + 2 * S)])) := by rw [s_set_ne (by omega)]; exact b1
    have d2 : (h.set 42 (.inl (1, 7, .inr (.inl (fun j => if j < 7 then stO (fun q => decide ((ovO s.2.2 (tx el n) n) q = cdS j)) k else T j)))))[45 + 2 * S]? = some (.inl (1, 100, .inr (.inl el))) := by rw [s_set_ne (by omega)]; exact b2
    have t42 : (h.set 42 (.inl (1, 7, .inr (.inl (fun j => if j < 7 then stO (fun q => decide ((ovO s.2.2 (tx el n) n) q = cdS j)) k else T j)))))[42]? = some (.inl (1, 7, .inr (.inl (fun j => if j < 7 then stO (fun q => decide ((ovO s.2.2 (tx el n) n) q = cdS j)) k else T j)))) := s_set_eq h42
    have en1 : (Int32.ofNat n).toInt = ((n : Nat) : Int) := ofN_toInt (by omega)
    have upd1 : ∀ sl, sl < 7 → (ovO s.2.2 (tx el n) n) k = cdS sl → vp_updL (fun j => if j < 7 then stO (fun q => decide ((ovO s.2.2 (tx el n) n) q = cdS j)) k else T j) sl ((fun j => if j < 7 then stO (fun q => decide ((ovO s.2.2 (tx el n) n) q = cdS j)) k else T j) sl ||| (Int64.ofNat 1 <<< ((Int32.ofNat k).toInt64 &&& 63))) = (fun j => if j < 7 then stO (fun q => decide ((ovO s.2.2 (tx el n) n) q = cdS j)) (k + 1) else T j) := fun sl h7 e => funext fun j => by
      by_cases y : j = sl
      · subst y
        rw [show vp_updL (fun j => if j < 7 then stO (fun q => decide ((ovO s.2.2 (tx el n) n) q = cdS j)) k else T j) j ((fun j => if j < 7 then stO (fun q => decide ((ovO s.2.2 (tx el n) n) q = cdS j)) k else T j) j ||| (Int64.ofNat 1 <<< ((Int32.ofNat k).toInt64 &&& 63))) j = (fun j => if j < 7 then stO (fun q => decide ((ovO s.2.2 (tx el n) n) q = cdS j)) k else T j) j ||| (Int64.ofNat 1 <<< ((Int32.ofNat k).toInt64 &&& 63)) from if_pos rfl, show (fun j => if j < 7 then stO (fun q => decide ((ovO s.2.2 (tx el n) n) q = cdS j)) k else T j) j = stO (fun q => decide ((ovO s.2.2 (tx el n) n) q = cdS j)) k from if_pos h7]
        exact ((if_pos h7).trans (if_pos (decide_eq_true e))).symm
      · rw [show vp_updL (fun j => if j < 7 then stO (fun q => decide ((ovO s.2.2 (tx el n) n) q = cdS j)) k else T j) sl ((fun j => if j < 7 then stO (fun q => decide ((ovO s.2.2 (tx el n) n) q = cdS j)) k else T j) sl ||| (Int64.ofNat 1 <<< ((Int32.ofNat k).toInt64 &&& 63))) j = (fun j => if j < 7 then stO (fun q => decide ((ovO s.2.2 (tx el n) n) q = cdS j)) k else T j) j from if_neg y]
        by_cases z : j < 7
        · refine (if_pos z).trans ((if_pos z).trans (if_neg ?_)).symm
          intro w
          exact y (cdS_inj z h7 ((of_decide_eq_true w).symm.trans e))
        · exact (if_neg z).trans (if_neg z).symm
    obtain ⟨hz, ehz⟩ : ∃ z, z = (h.set 42 (.inl (1, 7, .inr (.inl (fun j => if j < 7 then stO (fun q => decide ((ovO s.2.2 (tx el n) n) q = cdS j)) k else T j))))) := ⟨_, rfl⟩
    rw [← ehz] at z0 F0 c1 d1 d2 t42 ⊢
    refine g_iload_n (i := 3) rfl rfl ?_
    refine g_aload_n (i := 0) rfl rfl ?_
    refine g_getfield (v := .ref 5) rfl z0 (by decide) rfl ?_
    refine g_virt0 (Qc := fun r h' => h' = hz ∧ r = some (.int (c.1 0 * c.1 1))) rfl (by decide) rfl F0.1 rfl (Nat.le_of_ble_eq_true rfl) (by rw [show d = (d - 1) + 1 by omega]; exact s_squares (d := d - 1) F0) (fun r9 hz hq9 => ?_)
    obtain ⟨rfl, rfl⟩ := hq9
    refine g_icmp_ge 107 rfl rfl (fun hc => absurd hc (by rw [i_le, ew, ek]; omega)) (fun _ => ?_)
    refine g_aload_n (i := 0) rfl rfl ?_
    refine g_getfield (v := .ref 1) rfl z0 (by decide) rfl ?_
    refine g_iload_n (i := 1) rfl rfl ?_
    refine g_aaload rfl c1 (by decide) (i_in (by omega) (by omega)) ?_
    rw [gS]
    refine g_iload_n (i := 3) rfl rfl ?_
    by_cases hkn : k < n
    · skip
      refine g_virt1 (Qc := fun r h' => h' = hz ∧ r = some (.int 1)) rfl (by decide) rfl d1 rfl (Nat.le_of_ble_eq_true rfl) (by rw [show d = (d - 1) + 1 by omega]; exact s_has7 (d := d - 1) d1 (by rw [if_pos (by rw [ek, en1]; omega)])) (fun r9 hz hq9 => ?_)
      obtain ⟨rfl, rfl⟩ := hq9
      have ev : ovV (tx el n) n k = (tx el n) k := if_pos hkn
      refine g_if_eq 69 rfl rfl (fun hc => absurd hc (by decide)) (fun _ => ?_)
      refine g_aload_n (i := 0) rfl rfl ?_
      refine g_getfield (v := .ref 5) rfl z0 (by decide) rfl ?_
      refine g_aload_n (i := 0) rfl rfl ?_
      refine g_getfield (v := .ref 1) rfl z0 (by decide) rfl ?_
      refine g_iload_n (i := 1) rfl rfl ?_
      refine g_aaload rfl c1 (by decide) (i_in (by omega) (by omega)) ?_
      rw [gS]
      refine g_iload_n (i := 3) rfl rfl ?_
      refine g_virt1 (Qc := fun r h' => h' = hz ∧ r = some (.int ((tx el n) k))) rfl (by decide) rfl d1 rfl (Nat.le_of_ble_eq_true rfl) (by rw [show d = (d - 2) + 2 by omega]; exact s_intR (d := d - 2) d1 d2 hn1 ek) (fun r9 hz hq9 => ?_)
      obtain ⟨rfl, rfl⟩ := hq9
      by_cases hok : ∃ sl, okO s.2.2 ((tx el n) k) sl
      · skip
        obtain ⟨sl, hok⟩ := hok
        have q7 := okO_c n5 hok
        have es := ofN_toInt (n := sl) (by omega)
        have eo : (ovO s.2.2 (tx el n) n) k = cdS sl := by rw [ovO_y (by rw [ev]; exact ⟨sl, hok⟩), ev]; exact q7.2
        refine g_virt1 (Qc := fun r h' => h' = hz ∧ r = some (.int (Int32.ofNat sl))) rfl (by decide) rfl F0.1 rfl (Nat.le_of_ble_eq_true rfl) (s_slot11 (by omega) F0 sI hok) (fun r hz hq9 => ?_)
        obtain ⟨rfl, rfl⟩ := hq9
        refine g_goto 70 rfl rfl ?_
        refine g_istore (i := 4) (L1 := [some (.ref 0), some (.int sh), some (.int 0), some (.int (Int32.ofNat k)), some (.int (Int32.ofNat sl))]) rfl (Nat.le_of_ble_eq_true rfl) rfl ?_
        refine g_aload_n (i := 0) rfl rfl ?_
        refine g_getfield (v := .ref 42) rfl z0 (by decide) rfl ?_
        refine g_iload (i := 4) rfl rfl ?_
        refine g_iconst (n := (-1)) rfl ?_
        refine g_icmp_ne 87 rfl rfl (fun _ => ?_) (fun hc => absurd hc (by intro z; have z := congrArg Int32.toInt z; rw [es] at z; have e1 : (Int32.ofInt (-1)).toInt = -1 := rfl; omega))
        refine g_iload (i := 4) rfl rfl ?_
        refine g_dup2 rfl rfl rfl ?_
        refine g_laload (n := 7) (f := (fun j => if j < 7 then stO (fun q => decide ((ovO s.2.2 (tx el n) n) q = cdS j)) k else T j)) rfl t42 (i_in (by omega) (by omega)) ?_
        rw [i_nat es]
        refine g_aload_n (i := 0) rfl rfl ?_
        refine g_getfield (v := .ref 5) rfl z0 (by decide) rfl ?_
        refine g_iload_n (i := 3) rfl rfl ?_
        refine g_virt1 (Qc := fun r h' => h' = hz ∧ r = some (.long (Int64.ofNat 1 <<< ((Int32.ofNat k).toInt64 &&& 63)))) rfl (by decide) rfl F0.1 rfl (Nat.le_of_ble_eq_true rfl) (s_only8 (by omega) F0 g (by omega)) (fun r hz hq9 => ?_)
        obtain ⟨rfl, rfl⟩ := hq9
        refine g_lor rfl ?_
        refine g_lastore (n := 7) (f := (fun j => if j < 7 then stO (fun q => decide ((ovO s.2.2 (tx el n) n) q = cdS j)) k else T j)) (h1 := (h.set 42 (.inl (1, 7, .inr (.inl (fun j => if j < 7 then stO (fun q => decide ((ovO s.2.2 (tx el n) n) q = cdS j)) (k + 1) else T j)))))) rfl t42 (i_in (by omega) (by omega)) (by rw [i_nat es, ehz, List.set_set, upd1 sl (by omega) eo]) ?_
        refine g_iinc (i := 3) (L1 := [some (.ref 0), some (.int sh), some (.int 0), some (.int ((Int32.ofNat k) + Int32.ofInt 1)), some (.int (Int32.ofNat sl))]) rfl rfl rfl ?_
        rw [ofN_add (by omega)]
        refine g_goto 25 rfl rfl ?_
        exact ih (k + 1) _ (by omega)
      · skip
        have eo : (ovO s.2.2 (tx el n) n) k = cdS 6 := by rw [ovO_n (by rw [ev]; exact hok)]; rfl
        refine g_virt1 (Qc := fun r h' => h' = hz ∧ r = some (.int (Int32.ofInt (-1)))) rfl (by decide) rfl F0.1 rfl (Nat.le_of_ble_eq_true rfl) (s_slot11n (by omega) F0 sI (fun j z => hok ⟨j, z⟩)) (fun r hz hq9 => ?_)
        obtain ⟨rfl, rfl⟩ := hq9
        refine g_goto 70 rfl rfl ?_
        refine g_istore (i := 4) (L1 := [some (.ref 0), some (.int sh), some (.int 0), some (.int (Int32.ofNat k)), some (.int (Int32.ofInt (-1)))]) rfl (Nat.le_of_ble_eq_true rfl) rfl ?_
        refine g_aload_n (i := 0) rfl rfl ?_
        refine g_getfield (v := .ref 42) rfl z0 (by decide) rfl ?_
        refine g_iload (i := 4) rfl rfl ?_
        refine g_iconst (n := (-1)) rfl ?_
        refine g_icmp_ne 87 rfl rfl (fun hc => absurd hc (by exact fun z => z rfl)) (fun _ => ?_)
        refine g_bipush (n := 6) rfl ?_
        refine g_goto 89 rfl rfl ?_
        refine g_dup2 rfl rfl rfl ?_
        have es : (Int8.ofInt 6).toInt32.toInt = ((6 : Nat) : Int) := rfl
        refine g_laload (n := 7) (f := (fun j => if j < 7 then stO (fun q => decide ((ovO s.2.2 (tx el n) n) q = cdS j)) k else T j)) rfl t42 (i_in (by omega) (by omega)) ?_
        rw [i_nat es]
        refine g_aload_n (i := 0) rfl rfl ?_
        refine g_getfield (v := .ref 5) rfl z0 (by decide) rfl ?_
        refine g_iload_n (i := 3) rfl rfl ?_
        refine g_virt1 (Qc := fun r h' => h' = hz ∧ r = some (.long (Int64.ofNat 1 <<< ((Int32.ofNat k).toInt64 &&& 63)))) rfl (by decide) rfl F0.1 rfl (Nat.le_of_ble_eq_true rfl) (s_only8 (by omega) F0 g (by omega)) (fun r hz hq9 => ?_)
        obtain ⟨rfl, rfl⟩ := hq9
        refine g_lor rfl ?_
        refine g_lastore (n := 7) (f := (fun j => if j < 7 then stO (fun q => decide ((ovO s.2.2 (tx el n) n) q = cdS j)) k else T j)) (h1 := (h.set 42 (.inl (1, 7, .inr (.inl (fun j => if j < 7 then stO (fun q => decide ((ovO s.2.2 (tx el n) n) q = cdS j)) (k + 1) else T j)))))) rfl t42 (i_in (by omega) (by omega)) (by rw [i_nat es, ehz, List.set_set, upd1 6 (by omega) eo]) ?_
        refine g_iinc (i := 3) (L1 := [some (.ref 0), some (.int sh), some (.int 0), some (.int ((Int32.ofNat k) + Int32.ofInt 1)), some (.int (Int32.ofInt (-1)))]) rfl rfl rfl ?_
        rw [ofN_add (by omega)]
        refine g_goto 25 rfl rfl ?_
        exact ih (k + 1) _ (by omega)
    · skip
      refine g_virt1 (Qc := fun r h' => h' = hz ∧ r = some (.int 0)) rfl (by decide) rfl d1 rfl (Nat.le_of_ble_eq_true rfl) (by rw [show d = (d - 1) + 1 by omega]; exact s_has7 (d := d - 1) d1 (by rw [if_neg (by rw [ek, en1]; omega)])) (fun r9 hz hq9 => ?_)
      obtain ⟨rfl, rfl⟩ := hq9
      have ev : ovV (tx el n) n k = Int32.ofInt (-1) := if_neg hkn
      refine g_if_eq 69 rfl rfl (fun _ => ?_) (fun hc => absurd hc (by decide))
      refine g_iconst (n := (-1)) rfl ?_
      refine g_istore (i := 4) (L1 := [some (.ref 0), some (.int sh), some (.int 0), some (.int (Int32.ofNat k)), some (.int (Int32.ofInt (-1)))]) rfl (Nat.le_of_ble_eq_true rfl) rfl ?_
      refine g_aload_n (i := 0) rfl rfl ?_
      refine g_getfield (v := .ref 42) rfl z0 (by decide) rfl ?_
      refine g_iload (i := 4) rfl rfl ?_
      refine g_iconst (n := (-1)) rfl ?_
      have eo : (ovO s.2.2 (tx el n) n) k = cdS 6 := by
        by_cases z : ∃ j, okO s.2.2 (ovV (tx el n) n k) j
        · rw [ovO_y z, ev]; rfl
        · rw [ovO_n z]; rfl
      refine g_icmp_ne 87 rfl rfl (fun hc => absurd hc (by exact fun z => z rfl)) (fun _ => ?_)
      refine g_bipush (n := 6) rfl ?_
      refine g_goto 89 rfl rfl ?_
      refine g_dup2 rfl rfl rfl ?_
      have es : (Int8.ofInt 6).toInt32.toInt = ((6 : Nat) : Int) := rfl
      refine g_laload (n := 7) (f := (fun j => if j < 7 then stO (fun q => decide ((ovO s.2.2 (tx el n) n) q = cdS j)) k else T j)) rfl t42 (i_in (by omega) (by omega)) ?_
      rw [i_nat es]
      refine g_aload_n (i := 0) rfl rfl ?_
      refine g_getfield (v := .ref 5) rfl z0 (by decide) rfl ?_
      refine g_iload_n (i := 3) rfl rfl ?_
      refine g_virt1 (Qc := fun r h' => h' = hz ∧ r = some (.long (Int64.ofNat 1 <<< ((Int32.ofNat k).toInt64 &&& 63)))) rfl (by decide) rfl F0.1 rfl (Nat.le_of_ble_eq_true rfl) (s_only8 (by omega) F0 g (by omega)) (fun r hz hq9 => ?_)
      obtain ⟨rfl, rfl⟩ := hq9
      refine g_lor rfl ?_
      refine g_lastore (n := 7) (f := (fun j => if j < 7 then stO (fun q => decide ((ovO s.2.2 (tx el n) n) q = cdS j)) k else T j)) (h1 := (h.set 42 (.inl (1, 7, .inr (.inl (fun j => if j < 7 then stO (fun q => decide ((ovO s.2.2 (tx el n) n) q = cdS j)) (k + 1) else T j)))))) rfl t42 (i_in (by omega) (by omega)) (by rw [i_nat es, ehz, List.set_set, upd1 6 (by omega) eo]) ?_
      refine g_iinc (i := 3) (L1 := [some (.ref 0), some (.int sh), some (.int 0), some (.int ((Int32.ofNat k) + Int32.ofInt 1)), some (.int (Int32.ofInt (-1)))]) rfl rfl rfl ?_
      rw [ofN_add (by omega)]
      refine g_goto 25 rfl rfl ?_
      exact ih (k + 1) _ (by omega)
theorem s_ows11 {d : Nat} {h : sHp} {ik tf : Int32} {c : CF} {s : Sg} {f : Nat → Option Nat} {sh ot : Int32} {S n : Nat} {T el : Nat → Int64} (hd : 6 ≤ d) (h0 : h[0]? = some (cO ik tf)) (F : FC h 5 c) (g : gdF c s.1 s.2.1) (sI : sgI c s) (a1 : h[1]? = some (.inl (3, 8, .inr (.inr (.inr (.inr f)))))) (hs : sh.toInt = S) (hS : S < 8) (hf : f S = some (44 + 2 * S)) (b1 : h[44 + 2 * S]? = some (.inr (7, [.int ot, .int (Int32.ofNat n), .ref (45 + 2 * S)]))) (b2 : h[45 + 2 * S]? = some (.inl (1, 100, .inr (.inl el)))) (hn1 : n ≤ 100) (h42 : h[42]? = some (.inl (1, 7, .inr (.inl T)))) (hno : sDo (d - 1) 161 [.ref 0, .int sh] h (fun r h' => h' = h ∧ r = some (.int 0))) : sDo d 135 [.ref 0, .int sh] h (fun r h' => r = some (.int (Int32.ofNat (cnt ((stO (fun _ => true) (s.1 * s.2.1) &&& ((cpL (fun j => if j < 7 then stO (fun q => decide ((ovO s.2.2 (tx el n) n) q = cdS j)) (s.1 * s.2.1) else T j) c.2.2.2.2.2.2 7) 5 ^^^ Int64.ofNat 18446744073709551615)) &&& ((cpL (fun j => if j < 7 then stO (fun q => decide ((ovO s.2.2 (tx el n) n) q = cdS j)) (s.1 * s.2.1) else T j) c.2.2.2.2.2.2 7) 6 ^^^ Int64.ofNat 18446744073709551615))))) ∧ h' = ((h.set 42 (.inl (1, 7, .inr (.inl (fun j => if j < 7 then stO (fun q => decide ((ovO s.2.2 (tx el n) n) q = cdS j)) (s.1 * s.2.1) else T j))))).set 15 (.inl (1, 7, .inr (.inl (cpL (fun j => if j < 7 then stO (fun q => decide ((ovO s.2.2 (tx el n) n) q = cdS j)) (s.1 * s.2.1) else T j) c.2.2.2.2.2.2 7)))))) := by
  have hn := gdF_n g
  refine sDo_of1 (nL := 5) (L := [some (.ref 0), some (.int sh), none, none, none]) (by omega) rfl rfl ?_
  refine g_aload_n (i := 0) rfl rfl ?_
  refine g_iload_n (i := 1) rfl rfl ?_
  refine g_virt1 (Qc := fun r h' => h' = h ∧ r = some (.int 0)) rfl (by decide) rfl h0 rfl (Nat.le_of_ble_eq_true rfl) (hno) (fun r h hq9 => ?_)
  obtain ⟨rfl, rfl⟩ := hq9
  refine g_istore_n (i := 2) (L1 := [some (.ref 0), some (.int sh), some (.int 0), none, none]) rfl (Nat.le_of_ble_eq_true rfl) rfl ?_
  refine g_iload_n (i := 2) rfl rfl ?_
  refine g_if_eq 16 rfl rfl (fun _ => ?_) (fun hc => absurd hc (by decide))
  refine g_aload_n (i := 0) rfl rfl ?_
  refine g_getfield (v := .ref 42) rfl h0 (by decide) rfl ?_
  refine g_static1 (Qc := fun r h' => r = none ∧ h' = h.set 42 (.inl (1, 7, .inr (.inl (zrF T 7))))) rfl (by decide) rfl (Nat.le_of_ble_eq_true rfl) (by rw [show d - 1 = (d - 2) + 1 by omega]; exact s_empty (d := d - 2) h42 (by decide)) (fun r1 hA hq => ?_)
  obtain ⟨rfl, rfl⟩ := hq
  have ez : zrF T 7 = (fun j => if j < 7 then stO (fun q => decide ((ovO s.2.2 (tx el n) n) q = cdS j)) 0 else T j) := funext fun j => by
    unfold zrF
    by_cases z : j < 7
    · rw [if_pos z, if_pos z]; rfl
    · rw [if_neg z, if_neg z]
  rw [ez]
  have zz : (h.set 42 (.inl (1, 7, .inr (.inl (fun j => if j < 7 then stO (fun q => decide ((ovO s.2.2 (tx el n) n) q = cdS j)) 0 else T j)))))[0]? = some (cO ik tf) := by rw [s_set_ne (by decide)]; exact h0
  refine g_iconst (n := 0) rfl ?_
  refine g_istore_n (i := 3) (L1 := [some (.ref 0), some (.int sh), some (.int 0), some (.int (Int32.ofInt 0)), none]) rfl (Nat.le_of_ble_eq_true rfl) rfl ?_
  refine s_ows11_go (d := d - 1) (by omega) h0 F g sI a1 hs hS hf b1 b2 hn1 h42 (fun x o4 => ?_) (s.1 * s.2.1) 0 _ (Nat.zero_add _)
  have z1 : (h.set 42 (.inl (1, 7, .inr (.inl (fun j => if j < 7 then stO (fun q => decide ((ovO s.2.2 (tx el n) n) q = cdS j)) (s.1 * s.2.1) else T j)))))[0]? = some (cO ik tf) := by rw [s_set_ne (by decide)]; exact h0
  have F1 : FC (h.set 42 (.inl (1, 7, .inr (.inl (fun j => if j < 7 then stO (fun q => decide ((ovO s.2.2 (tx el n) n) q = cdS j)) (s.1 * s.2.1) else T j))))) 5 c := FC_out (q := 42) F (by omega)
  have t1 : (h.set 42 (.inl (1, 7, .inr (.inl (fun j => if j < 7 then stO (fun q => decide ((ovO s.2.2 (tx el n) n) q = cdS j)) (s.1 * s.2.1) else T j)))))[42]? = some (.inl (1, 7, .inr (.inl (fun j => if j < 7 then stO (fun q => decide ((ovO s.2.2 (tx el n) n) q = cdS j)) (s.1 * s.2.1) else T j)))) := s_set_eq h42
  refine g_aload_n (i := 0) rfl rfl ?_
  refine g_getfield (v := .ref 5) rfl z1 (by decide) rfl ?_
  refine g_aload_n (i := 0) rfl rfl ?_
  refine g_getfield (v := .ref 42) rfl z1 (by decide) rfl ?_
  refine g_virt1 rfl (by decide) rfl F1.1 rfl (Nat.le_of_ble_eq_true rfl) (s_take11 (d := d - 1) (by omega) F1 (by decide) t1) (fun r9 h9 hq9 => ?_)
  obtain ⟨rfl, rfl⟩ := hq9
  have z2 : ((h.set 42 (.inl (1, 7, .inr (.inl (fun j => if j < 7 then stO (fun q => decide ((ovO s.2.2 (tx el n) n) q = cdS j)) (s.1 * s.2.1) else T j))))).set 15 (.inl (1, 7, .inr (.inl (cpL (fun j => if j < 7 then stO (fun q => decide ((ovO s.2.2 (tx el n) n) q = cdS j)) (s.1 * s.2.1) else T j) c.2.2.2.2.2.2 7)))))[0]? = some (cO ik tf) := by rw [s_set_ne (by decide)]; exact z1
  have F2 : FC ((h.set 42 (.inl (1, 7, .inr (.inl (fun j => if j < 7 then stO (fun q => decide ((ovO s.2.2 (tx el n) n) q = cdS j)) (s.1 * s.2.1) else T j))))).set 15 (.inl (1, 7, .inr (.inl (cpL (fun j => if j < 7 then stO (fun q => decide ((ovO s.2.2 (tx el n) n) q = cdS j)) (s.1 * s.2.1) else T j) c.2.2.2.2.2.2 7))))) 5 (cw c (cpL (fun j => if j < 7 then stO (fun q => decide ((ovO s.2.2 (tx el n) n) q = cdS j)) (s.1 * s.2.1) else T j) c.2.2.2.2.2.2 7)) := FC_15 (c := c) (S := c.2.2.2.2.2.2) F1
  refine g_pop rfl rfl ?_
  refine g_aload_n (i := 0) rfl rfl ?_
  refine g_getfield (v := .ref 5) rfl z2 (by decide) rfl ?_
  refine g_virt0 rfl (by decide) rfl F2.1 rfl (Nat.le_of_ble_eq_true rfl) (s_heirs11 (d := d - 1) (c := cw c (cpL (fun j => if j < 7 then stO (fun q => decide ((ovO s.2.2 (tx el n) n) q = cdS j)) (s.1 * s.2.1) else T j) c.2.2.2.2.2.2 7)) (by omega) F2 g) (fun r9 h9 hq9 => ?_)
  obtain ⟨rfl, rfl⟩ := hq9
  refine g_ireturn (ty := .int) rfl rfl rfl ?_
  exact ⟨rfl, rfl⟩
theorem s_ows11n {d : Nat} {h : sHp} {ik tf : Int32} {R : Nat → Int32} {sh b : Int32} {B : Nat} (hd : 3 ≤ d) (h0 : h[0]? = some (cO ik tf)) (hR : h[43]? = some (rFc R)) (hb : b.toInt = -(B : Int)) (hB : 1 ≤ B ∧ B ≤ 7) (hno : sDo (d - 1) 161 [.ref 0, .int sh] h (fun r h' => h' = h ∧ r = some (.int b))) : sDo d 135 [.ref 0, .int sh] h (fun r h' => r = some (.int b) ∧ h' = h.set 43 (rFc (bump R B))) := by
  have hb0 : ¬ b = 0 := fun z => by rw [z] at hb; have e : (0 : Int32).toInt = 0 := rfl; omega
  refine sDo_of1 (nL := 5) (L := [some (.ref 0), some (.int sh), none, none, none]) (by omega) rfl rfl ?_
  refine g_aload_n (i := 0) rfl rfl ?_
  refine g_iload_n (i := 1) rfl rfl ?_
  refine g_virt1 (Qc := fun r h' => h' = h ∧ r = some (.int b)) rfl (by decide) rfl h0 rfl (Nat.le_of_ble_eq_true rfl) (hno) (fun r h hq9 => ?_)
  obtain ⟨rfl, rfl⟩ := hq9
  refine g_istore_n (i := 2) (L1 := [some (.ref 0), some (.int sh), some (.int b), none, none]) rfl (Nat.le_of_ble_eq_true rfl) rfl ?_
  refine g_iload_n (i := 2) rfl rfl ?_
  refine g_if_eq 16 rfl rfl (fun hc => absurd hc (by exact hb0)) (fun _ => ?_)
  refine g_aload_n (i := 0) rfl rfl ?_
  refine g_iload_n (i := 2) rfl rfl ?_
  refine g_virt1 (Qc := fun r h' => r = some (.int b) ∧ h' = h.set 43 (rFc (bump R B))) rfl (by decide) rfl h0 rfl (Nat.le_of_ble_eq_true rfl) (s_refuse2 (by omega) h0 hR hb hB) (fun r h9 hq9 => ?_)
  obtain ⟨rfl, rfl⟩ := hq9
  refine g_ireturn (ty := .int) rfl rfl rfl ?_
  exact ⟨rfl, rfl⟩
theorem s_ows12_go {d : Nat} {h : sHp} {m : MF} {s : Sg} {sz : Nat → Int32} {cl : Nat → Int64} {sh : Int32} {S n : Nat} {T : Nat → Int32} (hd : 3 ≤ d) (M : MC h m) (gM : gdM m.1 s.1 s.2.1) (sJ : sgJ m.1 s) (a6 : h[69]? = some (.inl (0, 8, .inl sz))) (a8 : h[71]? = some (.inl (1, 800, .inr (.inl cl)))) (hs : sh.toInt = S) (hS : S < 8) (hzn : sz S = Int32.ofNat n) (hn1 : n ≤ 100) (RT1 : RT cl S n T) : ∀ (fu k : Nat) (o5 : Option Value), k + fu = s.1 * s.2.1 → sGo none 218 d 22 [some (.ref 60), some (.int sh), some (.int 0), some (.int (Int32.ofNat (hcN s.2.2 (ovO s.2.2 T n) k))), some (.int (Int32.ofNat k)), o5] [] (h.set 63 (.inl (0, 64, .inl (fun q => if q < k then (ovO s.2.2 T n) q else m.2.2.1 q)))) (fun r h' => r = some (.int (Int32.ofNat (hcN s.2.2 (ovO s.2.2 T n) (s.1 * s.2.1)))) ∧ h' = (h.set 63 (.inl (0, 64, .inl (fun q => if q < (s.1 * s.2.1) then (ovO s.2.2 T n) q else m.2.2.1 q))))) := by
  have gd := gM
  obtain ⟨gw, gh, w2, w8, h2, h8⟩ := gd
  have hn := gdM_n gM
  have hw0 : (m.1 0).toInt = ((s.1 : Nat) : Int) := by rw [gw]; exact ofN_toInt (by omega)
  have hw1 : (m.1 1).toInt = ((s.2.1 : Nat) : Int) := by rw [gh]; exact ofN_toInt (by omega)
  have hwn : (m.1 0 * m.1 1).toInt = ((s.1 * s.2.1 : Nat) : Int) := n_mul hw0 hw1 (by omega)
  have n5 := sJ.2.2.2.2.2.2.2
  intro fu
  induction fu with
  | zero =>
    intro k o5 hk
    have eW : s.1 * s.2.1 = k := by omega
    have ek := ofN_toInt (n := k) (by omega)
    have hr : (h.set 63 (.inl (0, 64, .inl (fun q => if q < k then (ovO s.2.2 T n) q else m.2.2.1 q))))[60]? = some (mO m.1) := by rw [s_set_ne (by decide)]; exact M.1
    refine g_iload (i := 4) rfl rfl ?_
    refine g_aload_n (i := 0) rfl rfl ?_
    refine g_getfield (v := .int (m.1 0)) rfl hr (by decide) rfl ?_
    refine g_aload_n (i := 0) rfl rfl ?_
    refine g_getfield (v := .int (m.1 1)) rfl hr (by decide) rfl ?_
    refine g_imul rfl ?_
    refine g_icmp_ge 112 rfl rfl (fun _ => ?_) (fun hc => absurd hc (by rw [i_le, hwn, ek]; omega))
    refine g_iload_n (i := 3) rfl rfl ?_
    refine g_ireturn (ty := .int) rfl rfl rfl ?_
    exact ⟨by rw [eW], by rw [eW]⟩
  | succ fu ih =>
    intro k o5 hk
    have ek := ofN_toInt (n := k) (by omega)
    have hcl := hcN_le (N := s.2.2) (ow := (ovO s.2.2 T n)) k
    have hr : (h.set 63 (.inl (0, 64, .inl (fun q => if q < k then (ovO s.2.2 T n) q else m.2.2.1 q))))[60]? = some (mO m.1) := by rw [s_set_ne (by decide)]; exact M.1
    have h63 : (h.set 63 (.inl (0, 64, .inl (fun q => if q < k then (ovO s.2.2 T n) q else m.2.2.1 q))))[63]? = some (.inl (0, 64, .inl (fun q => if q < k then (ovO s.2.2 T n) q else m.2.2.1 q))) := s_set_eq M.2.2.1
    have c69 : (h.set 63 (.inl (0, 64, .inl (fun q => if q < k then (ovO s.2.2 T n) q else m.2.2.1 q))))[69]? = some (.inl (0, 8, .inl sz)) := by rw [s_set_ne (by decide)]; exact a6
    have c71 : (h.set 63 (.inl (0, 64, .inl (fun q => if q < k then (ovO s.2.2 T n) q else m.2.2.1 q))))[71]? = some (.inl (1, 800, .inr (.inl cl))) := by rw [s_set_ne (by decide)]; exact a8
    have en1 : (Int32.ofNat n).toInt = ((n : Nat) : Int) := ofN_toInt (by omega)
    have ef : ∀ v : Int32, v = (ovO s.2.2 T n) k → upd (fun q => if q < k then (ovO s.2.2 T n) q else m.2.2.1 q) k v = (fun q => if q < (k + 1) then (ovO s.2.2 T n) q else m.2.2.1 q) := fun v hv => funext fun q => by
      by_cases e : q = k
      · rw [e, u_at, hv]; exact (if_pos (by omega)).symm
      · rw [u_ne e]
        by_cases l : q < k
        · exact (if_pos l).trans (if_pos (by omega)).symm
        · exact (if_neg l).trans (if_neg (by omega)).symm
    obtain ⟨hz, ehz⟩ : ∃ z, z = (h.set 63 (.inl (0, 64, .inl (fun q => if q < k then (ovO s.2.2 T n) q else m.2.2.1 q)))) := ⟨_, rfl⟩
    rw [← ehz] at hr h63 c69 c71 ⊢
    refine g_iload (i := 4) rfl rfl ?_
    refine g_aload_n (i := 0) rfl rfl ?_
    refine g_getfield (v := .int (m.1 0)) rfl hr (by decide) rfl ?_
    refine g_aload_n (i := 0) rfl rfl ?_
    refine g_getfield (v := .int (m.1 1)) rfl hr (by decide) rfl ?_
    refine g_imul rfl ?_
    refine g_icmp_ge 112 rfl rfl (fun hc => absurd hc (by rw [i_le, hwn, ek]; omega)) (fun _ => ?_)
    refine g_iload (i := 4) rfl rfl ?_
    refine g_aload_n (i := 0) rfl rfl ?_
    refine g_getfield (v := .ref 69) rfl hr (by decide) rfl ?_
    refine g_iload_n (i := 1) rfl rfl ?_
    refine g_iaload (n := 8) (f := sz) rfl c69 (i_in (by omega) (by omega)) ?_
    rw [i_nat hs, hzn]
    refine g_icmp_ge 57 rfl rfl (fun c_1 => ?_) (fun c_1 => ?_)
    · skip
      rw [i_le, ek, en1] at c_1
      have ev : ovV T n k = Int32.ofInt (-1) := if_neg (by omega)
      refine g_iconst (n := (-1)) rfl ?_
      refine g_istore (i := 5) (L1 := [some (.ref 60), some (.int sh), some (.int 0), some (.int (Int32.ofNat (hcN s.2.2 (ovO s.2.2 T n) k))), some (.int (Int32.ofNat k)), some (.int (Int32.ofInt (-1)))]) rfl (Nat.le_of_ble_eq_true rfl) rfl ?_
      refine g_aload_n (i := 0) rfl rfl ?_
      refine g_getfield (v := .ref 63) rfl hr (by decide) rfl ?_
      refine g_iload (i := 4) rfl rfl ?_
      refine g_iload (i := 5) rfl rfl ?_
      refine g_bipush (n := 9) rfl ?_
      refine g_icmp_eq 82 rfl rfl (fun c_2 => ?_) (fun c_2 => ?_)
      · skip
        have eo : (ovO s.2.2 T n) k = (Int32.ofInt (-1)) := by rw [ovO_y (by rw [ev]; exact ⟨5, Or.inl ⟨rfl, c_2⟩⟩), ev]
        refine g_iload (i := 5) rfl rfl ?_
        refine g_goto 88 rfl rfl ?_
        refine g_iastore (n := 64) (f := (fun q => if q < k then (ovO s.2.2 T n) q else m.2.2.1 q)) (h1 := (h.set 63 (.inl (0, 64, .inl (fun q => if q < (k + 1) then (ovO s.2.2 T n) q else m.2.2.1 q))))) rfl h63 (i_in (by omega) (by omega)) (by rw [i_nat ek, ehz, List.set_set, ef _ (eo.symm)]) ?_
        have hrB : (h.set 63 (.inl (0, 64, .inl (fun q => if q < (k + 1) then (ovO s.2.2 T n) q else m.2.2.1 q))))[60]? = some (mO m.1) := by rw [s_set_ne (by decide)]; exact M.1
        have h63B : (h.set 63 (.inl (0, 64, .inl (fun q => if q < (k + 1) then (ovO s.2.2 T n) q else m.2.2.1 q))))[63]? = some (.inl (0, 64, .inl (fun q => if q < (k + 1) then (ovO s.2.2 T n) q else m.2.2.1 q))) := s_set_eq M.2.2.1
        have eB : (if k < k + 1 then (ovO s.2.2 T n) k else m.2.2.1 k) = (ovO s.2.2 T n) k := if_pos (by omega)
        obtain ⟨hy, ehy⟩ : ∃ z, z = (h.set 63 (.inl (0, 64, .inl (fun q => if q < (k + 1) then (ovO s.2.2 T n) q else m.2.2.1 q)))) := ⟨_, rfl⟩
        rw [← ehy] at hrB h63B ⊢
        refine g_aload_n (i := 0) rfl rfl ?_
        refine g_aload_n (i := 0) rfl rfl ?_
        refine g_getfield (v := .ref 63) rfl hrB (by decide) rfl ?_
        refine g_iload (i := 4) rfl rfl ?_
        refine g_iaload (n := 64) (f := (fun q => if q < (k + 1) then (ovO s.2.2 T n) q else m.2.2.1 q)) rfl h63B (i_in (by omega) (by omega)) ?_
        rw [i_nat ek, eB]
        refine g_virt1 (Qc := fun r h' => h' = hy ∧ (((0 ≤ ((ovO s.2.2 T n) k).toInt ∧ ((ovO s.2.2 T n) k).toInt < (s.2.2 : Int)) ∧ r = some (.int 1)) ∨ (¬ (0 ≤ ((ovO s.2.2 T n) k).toInt ∧ ((ovO s.2.2 T n) k).toInt < (s.2.2 : Int)) ∧ r = some (.int 0)))) rfl (by decide) rfl hrB rfl (Nat.le_of_ble_eq_true rfl) (s_hr12 (by omega) hrB sJ.2.2.1 n5) (fun r hy hq9 => ?_)
        obtain ⟨rfl, ⟨c_3, rfl⟩ | ⟨c_3, rfl⟩⟩ := hq9
        · skip
          have ec : (hcN s.2.2 (ovO s.2.2 T n) (k + 1)) = (hcN s.2.2 (ovO s.2.2 T n) k) + 1 := by
            show (hcN s.2.2 (ovO s.2.2 T n) k) + _ = _
            rw [if_pos c_3]
          refine g_if_eq 106 rfl rfl (fun hc => absurd hc (by decide)) (fun _ => ?_)
          refine g_iinc (i := 3) (L1 := [some (.ref 60), some (.int sh), some (.int 0), some (.int ((Int32.ofNat (hcN s.2.2 (ovO s.2.2 T n) k)) + Int32.ofInt 1)), some (.int (Int32.ofNat k)), some (.int (Int32.ofInt (-1)))]) rfl rfl rfl ?_
          rw [ofN_add (by omega)]
          refine g_iinc (i := 4) (L1 := [some (.ref 60), some (.int sh), some (.int 0), some (.int (Int32.ofNat (hcN s.2.2 (ovO s.2.2 T n) k + 1))), some (.int ((Int32.ofNat k) + Int32.ofInt 1)), some (.int (Int32.ofInt (-1)))]) rfl rfl rfl ?_
          rw [ofN_add (by omega)]
          refine g_goto 22 rfl rfl ?_
          have key := ih (k + 1) (some (.int (Int32.ofInt (-1)))) (by omega)
          rw [ec, ← ehy] at key
          exact key
        · skip
          have ec : (hcN s.2.2 (ovO s.2.2 T n) (k + 1)) = (hcN s.2.2 (ovO s.2.2 T n) k) := by
            show (hcN s.2.2 (ovO s.2.2 T n) k) + _ = _
            rw [if_neg c_3, Nat.add_zero]
          refine g_if_eq 106 rfl rfl (fun _ => ?_) (fun hc => absurd hc (by decide))
          refine g_iinc (i := 4) (L1 := [some (.ref 60), some (.int sh), some (.int 0), some (.int (Int32.ofNat (hcN s.2.2 (ovO s.2.2 T n) k))), some (.int ((Int32.ofNat k) + Int32.ofInt 1)), some (.int (Int32.ofInt (-1)))]) rfl rfl rfl ?_
          rw [ofN_add (by omega)]
          refine g_goto 22 rfl rfl ?_
          have key := ih (k + 1) (some (.int (Int32.ofInt (-1)))) (by omega)
          rw [ec, ← ehy] at key
          exact key
      · skip
        refine g_aload_n (i := 0) rfl rfl ?_
        refine g_iload (i := 5) rfl rfl ?_
        refine g_virt1 (Qc := fun r h' => h' = hz ∧ (((0 ≤ ((Int32.ofInt (-1))).toInt ∧ ((Int32.ofInt (-1))).toInt < (s.2.2 : Int)) ∧ r = some (.int 1)) ∨ (¬ (0 ≤ ((Int32.ofInt (-1))).toInt ∧ ((Int32.ofInt (-1))).toInt < (s.2.2 : Int)) ∧ r = some (.int 0)))) rfl (by decide) rfl hr rfl (Nat.le_of_ble_eq_true rfl) (s_hr12 (by omega) hr sJ.2.2.1 n5) (fun r hz hq9 => ?_)
        obtain ⟨rfl, ⟨c_4, rfl⟩ | ⟨c_4, rfl⟩⟩ := hq9
        · skip
          have eo : (ovO s.2.2 T n) k = (Int32.ofInt (-1)) := by rw [ovO_y (by rw [ev]; exact ⟨((Int32.ofInt (-1))).toInt.toNat, Or.inr (Or.inr ⟨by omega, Int32.toInt_inj.mp (by rw [ofN_toInt (by omega)]; omega)⟩)⟩), ev]
          refine g_if_eq 87 rfl rfl (fun hc => absurd hc (by decide)) (fun _ => ?_)
          refine g_iload (i := 5) rfl rfl ?_
          refine g_goto 88 rfl rfl ?_
          refine g_iastore (n := 64) (f := (fun q => if q < k then (ovO s.2.2 T n) q else m.2.2.1 q)) (h1 := (h.set 63 (.inl (0, 64, .inl (fun q => if q < (k + 1) then (ovO s.2.2 T n) q else m.2.2.1 q))))) rfl h63 (i_in (by omega) (by omega)) (by rw [i_nat ek, ehz, List.set_set, ef _ (eo.symm)]) ?_
          have hrB : (h.set 63 (.inl (0, 64, .inl (fun q => if q < (k + 1) then (ovO s.2.2 T n) q else m.2.2.1 q))))[60]? = some (mO m.1) := by rw [s_set_ne (by decide)]; exact M.1
          have h63B : (h.set 63 (.inl (0, 64, .inl (fun q => if q < (k + 1) then (ovO s.2.2 T n) q else m.2.2.1 q))))[63]? = some (.inl (0, 64, .inl (fun q => if q < (k + 1) then (ovO s.2.2 T n) q else m.2.2.1 q))) := s_set_eq M.2.2.1
          have eB : (if k < k + 1 then (ovO s.2.2 T n) k else m.2.2.1 k) = (ovO s.2.2 T n) k := if_pos (by omega)
          obtain ⟨hy, ehy⟩ : ∃ z, z = (h.set 63 (.inl (0, 64, .inl (fun q => if q < (k + 1) then (ovO s.2.2 T n) q else m.2.2.1 q)))) := ⟨_, rfl⟩
          rw [← ehy] at hrB h63B ⊢
          refine g_aload_n (i := 0) rfl rfl ?_
          refine g_aload_n (i := 0) rfl rfl ?_
          refine g_getfield (v := .ref 63) rfl hrB (by decide) rfl ?_
          refine g_iload (i := 4) rfl rfl ?_
          refine g_iaload (n := 64) (f := (fun q => if q < (k + 1) then (ovO s.2.2 T n) q else m.2.2.1 q)) rfl h63B (i_in (by omega) (by omega)) ?_
          rw [i_nat ek, eB]
          refine g_virt1 (Qc := fun r h' => h' = hy ∧ (((0 ≤ ((ovO s.2.2 T n) k).toInt ∧ ((ovO s.2.2 T n) k).toInt < (s.2.2 : Int)) ∧ r = some (.int 1)) ∨ (¬ (0 ≤ ((ovO s.2.2 T n) k).toInt ∧ ((ovO s.2.2 T n) k).toInt < (s.2.2 : Int)) ∧ r = some (.int 0)))) rfl (by decide) rfl hrB rfl (Nat.le_of_ble_eq_true rfl) (s_hr12 (by omega) hrB sJ.2.2.1 n5) (fun r hy hq9 => ?_)
          obtain ⟨rfl, ⟨c_5, rfl⟩ | ⟨c_5, rfl⟩⟩ := hq9
          · skip
            have ec : (hcN s.2.2 (ovO s.2.2 T n) (k + 1)) = (hcN s.2.2 (ovO s.2.2 T n) k) + 1 := by
              show (hcN s.2.2 (ovO s.2.2 T n) k) + _ = _
              rw [if_pos c_5]
            refine g_if_eq 106 rfl rfl (fun hc => absurd hc (by decide)) (fun _ => ?_)
            refine g_iinc (i := 3) (L1 := [some (.ref 60), some (.int sh), some (.int 0), some (.int ((Int32.ofNat (hcN s.2.2 (ovO s.2.2 T n) k)) + Int32.ofInt 1)), some (.int (Int32.ofNat k)), some (.int (Int32.ofInt (-1)))]) rfl rfl rfl ?_
            rw [ofN_add (by omega)]
            refine g_iinc (i := 4) (L1 := [some (.ref 60), some (.int sh), some (.int 0), some (.int (Int32.ofNat (hcN s.2.2 (ovO s.2.2 T n) k + 1))), some (.int ((Int32.ofNat k) + Int32.ofInt 1)), some (.int (Int32.ofInt (-1)))]) rfl rfl rfl ?_
            rw [ofN_add (by omega)]
            refine g_goto 22 rfl rfl ?_
            have key := ih (k + 1) (some (.int (Int32.ofInt (-1)))) (by omega)
            rw [ec, ← ehy] at key
            exact key
          · skip
            have ec : (hcN s.2.2 (ovO s.2.2 T n) (k + 1)) = (hcN s.2.2 (ovO s.2.2 T n) k) := by
              show (hcN s.2.2 (ovO s.2.2 T n) k) + _ = _
              rw [if_neg c_5, Nat.add_zero]
            refine g_if_eq 106 rfl rfl (fun _ => ?_) (fun hc => absurd hc (by decide))
            refine g_iinc (i := 4) (L1 := [some (.ref 60), some (.int sh), some (.int 0), some (.int (Int32.ofNat (hcN s.2.2 (ovO s.2.2 T n) k))), some (.int ((Int32.ofNat k) + Int32.ofInt 1)), some (.int (Int32.ofInt (-1)))]) rfl rfl rfl ?_
            rw [ofN_add (by omega)]
            refine g_goto 22 rfl rfl ?_
            have key := ih (k + 1) (some (.int (Int32.ofInt (-1)))) (by omega)
            rw [ec, ← ehy] at key
            exact key
        · skip
          have eo : (ovO s.2.2 T n) k = Int32.ofInt (-1) := by
            by_cases z : ∃ j, okO s.2.2 (ovV T n k) j
            · rw [ovO_y z, ev]
            · rw [ovO_n z]
          refine g_if_eq 87 rfl rfl (fun _ => ?_) (fun hc => absurd hc (by decide))
          refine g_iconst (n := (-1)) rfl ?_
          refine g_iastore (n := 64) (f := (fun q => if q < k then (ovO s.2.2 T n) q else m.2.2.1 q)) (h1 := (h.set 63 (.inl (0, 64, .inl (fun q => if q < (k + 1) then (ovO s.2.2 T n) q else m.2.2.1 q))))) rfl h63 (i_in (by omega) (by omega)) (by rw [i_nat ek, ehz, List.set_set, ef _ (eo.symm)]) ?_
          have hrB : (h.set 63 (.inl (0, 64, .inl (fun q => if q < (k + 1) then (ovO s.2.2 T n) q else m.2.2.1 q))))[60]? = some (mO m.1) := by rw [s_set_ne (by decide)]; exact M.1
          have h63B : (h.set 63 (.inl (0, 64, .inl (fun q => if q < (k + 1) then (ovO s.2.2 T n) q else m.2.2.1 q))))[63]? = some (.inl (0, 64, .inl (fun q => if q < (k + 1) then (ovO s.2.2 T n) q else m.2.2.1 q))) := s_set_eq M.2.2.1
          have eB : (if k < k + 1 then (ovO s.2.2 T n) k else m.2.2.1 k) = (ovO s.2.2 T n) k := if_pos (by omega)
          obtain ⟨hy, ehy⟩ : ∃ z, z = (h.set 63 (.inl (0, 64, .inl (fun q => if q < (k + 1) then (ovO s.2.2 T n) q else m.2.2.1 q)))) := ⟨_, rfl⟩
          rw [← ehy] at hrB h63B ⊢
          refine g_aload_n (i := 0) rfl rfl ?_
          refine g_aload_n (i := 0) rfl rfl ?_
          refine g_getfield (v := .ref 63) rfl hrB (by decide) rfl ?_
          refine g_iload (i := 4) rfl rfl ?_
          refine g_iaload (n := 64) (f := (fun q => if q < (k + 1) then (ovO s.2.2 T n) q else m.2.2.1 q)) rfl h63B (i_in (by omega) (by omega)) ?_
          rw [i_nat ek, eB]
          refine g_virt1 (Qc := fun r h' => h' = hy ∧ (((0 ≤ ((ovO s.2.2 T n) k).toInt ∧ ((ovO s.2.2 T n) k).toInt < (s.2.2 : Int)) ∧ r = some (.int 1)) ∨ (¬ (0 ≤ ((ovO s.2.2 T n) k).toInt ∧ ((ovO s.2.2 T n) k).toInt < (s.2.2 : Int)) ∧ r = some (.int 0)))) rfl (by decide) rfl hrB rfl (Nat.le_of_ble_eq_true rfl) (s_hr12 (by omega) hrB sJ.2.2.1 n5) (fun r hy hq9 => ?_)
          obtain ⟨rfl, ⟨c_6, rfl⟩ | ⟨c_6, rfl⟩⟩ := hq9
          · skip
            have ec : (hcN s.2.2 (ovO s.2.2 T n) (k + 1)) = (hcN s.2.2 (ovO s.2.2 T n) k) + 1 := by
              show (hcN s.2.2 (ovO s.2.2 T n) k) + _ = _
              rw [if_pos c_6]
            refine g_if_eq 106 rfl rfl (fun hc => absurd hc (by decide)) (fun _ => ?_)
            refine g_iinc (i := 3) (L1 := [some (.ref 60), some (.int sh), some (.int 0), some (.int ((Int32.ofNat (hcN s.2.2 (ovO s.2.2 T n) k)) + Int32.ofInt 1)), some (.int (Int32.ofNat k)), some (.int (Int32.ofInt (-1)))]) rfl rfl rfl ?_
            rw [ofN_add (by omega)]
            refine g_iinc (i := 4) (L1 := [some (.ref 60), some (.int sh), some (.int 0), some (.int (Int32.ofNat (hcN s.2.2 (ovO s.2.2 T n) k + 1))), some (.int ((Int32.ofNat k) + Int32.ofInt 1)), some (.int (Int32.ofInt (-1)))]) rfl rfl rfl ?_
            rw [ofN_add (by omega)]
            refine g_goto 22 rfl rfl ?_
            have key := ih (k + 1) (some (.int (Int32.ofInt (-1)))) (by omega)
            rw [ec, ← ehy] at key
            exact key
          · skip
            have ec : (hcN s.2.2 (ovO s.2.2 T n) (k + 1)) = (hcN s.2.2 (ovO s.2.2 T n) k) := by
              show (hcN s.2.2 (ovO s.2.2 T n) k) + _ = _
              rw [if_neg c_6, Nat.add_zero]
            refine g_if_eq 106 rfl rfl (fun _ => ?_) (fun hc => absurd hc (by decide))
            refine g_iinc (i := 4) (L1 := [some (.ref 60), some (.int sh), some (.int 0), some (.int (Int32.ofNat (hcN s.2.2 (ovO s.2.2 T n) k))), some (.int ((Int32.ofNat k) + Int32.ofInt 1)), some (.int (Int32.ofInt (-1)))]) rfl rfl rfl ?_
            rw [ofN_add (by omega)]
            refine g_goto 22 rfl rfl ?_
            have key := ih (k + 1) (some (.int (Int32.ofInt (-1)))) (by omega)
            rw [ec, ← ehy] at key
            exact key
    · skip
      rw [i_le, ek, en1] at c_1
      have ev : ovV T n k = T k := if_pos (by omega)
      refine g_aload_n (i := 0) rfl rfl ?_
      refine g_iload_n (i := 1) rfl rfl ?_
      refine g_iload (i := 4) rfl rfl ?_
      refine g_virt2 (Qc := fun r h' => h' = hz ∧ r = some (.int (T k))) rfl (by decide) rfl hr rfl (Nat.le_of_ble_eq_true rfl) (s_intAt12 (by omega) hr c71 hs RT1 (by omega)) (fun r hz hq9 => ?_)
      obtain ⟨rfl, rfl⟩ := hq9
      refine g_goto 58 rfl rfl ?_
      refine g_istore (i := 5) (L1 := [some (.ref 60), some (.int sh), some (.int 0), some (.int (Int32.ofNat (hcN s.2.2 (ovO s.2.2 T n) k))), some (.int (Int32.ofNat k)), some (.int (T k))]) rfl (Nat.le_of_ble_eq_true rfl) rfl ?_
      refine g_aload_n (i := 0) rfl rfl ?_
      refine g_getfield (v := .ref 63) rfl hr (by decide) rfl ?_
      refine g_iload (i := 4) rfl rfl ?_
      refine g_iload (i := 5) rfl rfl ?_
      refine g_bipush (n := 9) rfl ?_
      refine g_icmp_eq 82 rfl rfl (fun c_7 => ?_) (fun c_7 => ?_)
      · skip
        have eo : (ovO s.2.2 T n) k = (T k) := by rw [ovO_y (by rw [ev]; exact ⟨5, Or.inl ⟨rfl, c_7⟩⟩), ev]
        refine g_iload (i := 5) rfl rfl ?_
        refine g_goto 88 rfl rfl ?_
        refine g_iastore (n := 64) (f := (fun q => if q < k then (ovO s.2.2 T n) q else m.2.2.1 q)) (h1 := (h.set 63 (.inl (0, 64, .inl (fun q => if q < (k + 1) then (ovO s.2.2 T n) q else m.2.2.1 q))))) rfl h63 (i_in (by omega) (by omega)) (by rw [i_nat ek, ehz, List.set_set, ef _ (eo.symm)]) ?_
        have hrB : (h.set 63 (.inl (0, 64, .inl (fun q => if q < (k + 1) then (ovO s.2.2 T n) q else m.2.2.1 q))))[60]? = some (mO m.1) := by rw [s_set_ne (by decide)]; exact M.1
        have h63B : (h.set 63 (.inl (0, 64, .inl (fun q => if q < (k + 1) then (ovO s.2.2 T n) q else m.2.2.1 q))))[63]? = some (.inl (0, 64, .inl (fun q => if q < (k + 1) then (ovO s.2.2 T n) q else m.2.2.1 q))) := s_set_eq M.2.2.1
        have eB : (if k < k + 1 then (ovO s.2.2 T n) k else m.2.2.1 k) = (ovO s.2.2 T n) k := if_pos (by omega)
        obtain ⟨hy, ehy⟩ : ∃ z, z = (h.set 63 (.inl (0, 64, .inl (fun q => if q < (k + 1) then (ovO s.2.2 T n) q else m.2.2.1 q)))) := ⟨_, rfl⟩
        rw [← ehy] at hrB h63B ⊢
        refine g_aload_n (i := 0) rfl rfl ?_
        refine g_aload_n (i := 0) rfl rfl ?_
        refine g_getfield (v := .ref 63) rfl hrB (by decide) rfl ?_
        refine g_iload (i := 4) rfl rfl ?_
        refine g_iaload (n := 64) (f := (fun q => if q < (k + 1) then (ovO s.2.2 T n) q else m.2.2.1 q)) rfl h63B (i_in (by omega) (by omega)) ?_
        rw [i_nat ek, eB]
        refine g_virt1 (Qc := fun r h' => h' = hy ∧ (((0 ≤ ((ovO s.2.2 T n) k).toInt ∧ ((ovO s.2.2 T n) k).toInt < (s.2.2 : Int)) ∧ r = some (.int 1)) ∨ (¬ (0 ≤ ((ovO s.2.2 T n) k).toInt ∧ ((ovO s.2.2 T n) k).toInt < (s.2.2 : Int)) ∧ r = some (.int 0)))) rfl (by decide) rfl hrB rfl (Nat.le_of_ble_eq_true rfl) (s_hr12 (by omega) hrB sJ.2.2.1 n5) (fun r hy hq9 => ?_)
        obtain ⟨rfl, ⟨c_8, rfl⟩ | ⟨c_8, rfl⟩⟩ := hq9
        · skip
          have ec : (hcN s.2.2 (ovO s.2.2 T n) (k + 1)) = (hcN s.2.2 (ovO s.2.2 T n) k) + 1 := by
            show (hcN s.2.2 (ovO s.2.2 T n) k) + _ = _
            rw [if_pos c_8]
          refine g_if_eq 106 rfl rfl (fun hc => absurd hc (by decide)) (fun _ => ?_)
          refine g_iinc (i := 3) (L1 := [some (.ref 60), some (.int sh), some (.int 0), some (.int ((Int32.ofNat (hcN s.2.2 (ovO s.2.2 T n) k)) + Int32.ofInt 1)), some (.int (Int32.ofNat k)), some (.int (T k))]) rfl rfl rfl ?_
          rw [ofN_add (by omega)]
          refine g_iinc (i := 4) (L1 := [some (.ref 60), some (.int sh), some (.int 0), some (.int (Int32.ofNat (hcN s.2.2 (ovO s.2.2 T n) k + 1))), some (.int ((Int32.ofNat k) + Int32.ofInt 1)), some (.int (T k))]) rfl rfl rfl ?_
          rw [ofN_add (by omega)]
          refine g_goto 22 rfl rfl ?_
          have key := ih (k + 1) (some (.int (T k))) (by omega)
          rw [ec, ← ehy] at key
          exact key
        · skip
          have ec : (hcN s.2.2 (ovO s.2.2 T n) (k + 1)) = (hcN s.2.2 (ovO s.2.2 T n) k) := by
            show (hcN s.2.2 (ovO s.2.2 T n) k) + _ = _
            rw [if_neg c_8, Nat.add_zero]
          refine g_if_eq 106 rfl rfl (fun _ => ?_) (fun hc => absurd hc (by decide))
          refine g_iinc (i := 4) (L1 := [some (.ref 60), some (.int sh), some (.int 0), some (.int (Int32.ofNat (hcN s.2.2 (ovO s.2.2 T n) k))), some (.int ((Int32.ofNat k) + Int32.ofInt 1)), some (.int (T k))]) rfl rfl rfl ?_
          rw [ofN_add (by omega)]
          refine g_goto 22 rfl rfl ?_
          have key := ih (k + 1) (some (.int (T k))) (by omega)
          rw [ec, ← ehy] at key
          exact key
      · skip
        refine g_aload_n (i := 0) rfl rfl ?_
        refine g_iload (i := 5) rfl rfl ?_
        refine g_virt1 (Qc := fun r h' => h' = hz ∧ (((0 ≤ ((T k)).toInt ∧ ((T k)).toInt < (s.2.2 : Int)) ∧ r = some (.int 1)) ∨ (¬ (0 ≤ ((T k)).toInt ∧ ((T k)).toInt < (s.2.2 : Int)) ∧ r = some (.int 0)))) rfl (by decide) rfl hr rfl (Nat.le_of_ble_eq_true rfl) (s_hr12 (by omega) hr sJ.2.2.1 n5) (fun r hz hq9 => ?_)
        obtain ⟨rfl, ⟨c_9, rfl⟩ | ⟨c_9, rfl⟩⟩ := hq9
        · skip
          have eo : (ovO s.2.2 T n) k = (T k) := by rw [ovO_y (by rw [ev]; exact ⟨((T k)).toInt.toNat, Or.inr (Or.inr ⟨by omega, Int32.toInt_inj.mp (by rw [ofN_toInt (by omega)]; omega)⟩)⟩), ev]
          refine g_if_eq 87 rfl rfl (fun hc => absurd hc (by decide)) (fun _ => ?_)
          refine g_iload (i := 5) rfl rfl ?_
          refine g_goto 88 rfl rfl ?_
          refine g_iastore (n := 64) (f := (fun q => if q < k then (ovO s.2.2 T n) q else m.2.2.1 q)) (h1 := (h.set 63 (.inl (0, 64, .inl (fun q => if q < (k + 1) then (ovO s.2.2 T n) q else m.2.2.1 q))))) rfl h63 (i_in (by omega) (by omega)) (by rw [i_nat ek, ehz, List.set_set, ef _ (eo.symm)]) ?_
          have hrB : (h.set 63 (.inl (0, 64, .inl (fun q => if q < (k + 1) then (ovO s.2.2 T n) q else m.2.2.1 q))))[60]? = some (mO m.1) := by rw [s_set_ne (by decide)]; exact M.1
          have h63B : (h.set 63 (.inl (0, 64, .inl (fun q => if q < (k + 1) then (ovO s.2.2 T n) q else m.2.2.1 q))))[63]? = some (.inl (0, 64, .inl (fun q => if q < (k + 1) then (ovO s.2.2 T n) q else m.2.2.1 q))) := s_set_eq M.2.2.1
          have eB : (if k < k + 1 then (ovO s.2.2 T n) k else m.2.2.1 k) = (ovO s.2.2 T n) k := if_pos (by omega)
          obtain ⟨hy, ehy⟩ : ∃ z, z = (h.set 63 (.inl (0, 64, .inl (fun q => if q < (k + 1) then (ovO s.2.2 T n) q else m.2.2.1 q)))) := ⟨_, rfl⟩
          rw [← ehy] at hrB h63B ⊢
          refine g_aload_n (i := 0) rfl rfl ?_
          refine g_aload_n (i := 0) rfl rfl ?_
          refine g_getfield (v := .ref 63) rfl hrB (by decide) rfl ?_
          refine g_iload (i := 4) rfl rfl ?_
          refine g_iaload (n := 64) (f := (fun q => if q < (k + 1) then (ovO s.2.2 T n) q else m.2.2.1 q)) rfl h63B (i_in (by omega) (by omega)) ?_
          rw [i_nat ek, eB]
          refine g_virt1 (Qc := fun r h' => h' = hy ∧ (((0 ≤ ((ovO s.2.2 T n) k).toInt ∧ ((ovO s.2.2 T n) k).toInt < (s.2.2 : Int)) ∧ r = some (.int 1)) ∨ (¬ (0 ≤ ((ovO s.2.2 T n) k).toInt ∧ ((ovO s.2.2 T n) k).toInt < (s.2.2 : Int)) ∧ r = some (.int 0)))) rfl (by decide) rfl hrB rfl (Nat.le_of_ble_eq_true rfl) (s_hr12 (by omega) hrB sJ.2.2.1 n5) (fun r hy hq9 => ?_)
          obtain ⟨rfl, ⟨c_10, rfl⟩ | ⟨c_10, rfl⟩⟩ := hq9
          · skip
            have ec : (hcN s.2.2 (ovO s.2.2 T n) (k + 1)) = (hcN s.2.2 (ovO s.2.2 T n) k) + 1 := by
              show (hcN s.2.2 (ovO s.2.2 T n) k) + _ = _
              rw [if_pos c_10]
            refine g_if_eq 106 rfl rfl (fun hc => absurd hc (by decide)) (fun _ => ?_)
            refine g_iinc (i := 3) (L1 := [some (.ref 60), some (.int sh), some (.int 0), some (.int ((Int32.ofNat (hcN s.2.2 (ovO s.2.2 T n) k)) + Int32.ofInt 1)), some (.int (Int32.ofNat k)), some (.int (T k))]) rfl rfl rfl ?_
            rw [ofN_add (by omega)]
            refine g_iinc (i := 4) (L1 := [some (.ref 60), some (.int sh), some (.int 0), some (.int (Int32.ofNat (hcN s.2.2 (ovO s.2.2 T n) k + 1))), some (.int ((Int32.ofNat k) + Int32.ofInt 1)), some (.int (T k))]) rfl rfl rfl ?_
            rw [ofN_add (by omega)]
            refine g_goto 22 rfl rfl ?_
            have key := ih (k + 1) (some (.int (T k))) (by omega)
            rw [ec, ← ehy] at key
            exact key
          · skip
            have ec : (hcN s.2.2 (ovO s.2.2 T n) (k + 1)) = (hcN s.2.2 (ovO s.2.2 T n) k) := by
              show (hcN s.2.2 (ovO s.2.2 T n) k) + _ = _
              rw [if_neg c_10, Nat.add_zero]
            refine g_if_eq 106 rfl rfl (fun _ => ?_) (fun hc => absurd hc (by decide))
            refine g_iinc (i := 4) (L1 := [some (.ref 60), some (.int sh), some (.int 0), some (.int (Int32.ofNat (hcN s.2.2 (ovO s.2.2 T n) k))), some (.int ((Int32.ofNat k) + Int32.ofInt 1)), some (.int (T k))]) rfl rfl rfl ?_
            rw [ofN_add (by omega)]
            refine g_goto 22 rfl rfl ?_
            have key := ih (k + 1) (some (.int (T k))) (by omega)
            rw [ec, ← ehy] at key
            exact key
        · skip
          have eo : (ovO s.2.2 T n) k = Int32.ofInt (-1) := by
            by_cases z : ∃ j, okO s.2.2 (ovV T n k) j
            · rw [ovO_y z, ev]
              rw [ev] at z
              obtain ⟨j, ⟨-, e⟩ | ⟨-, e⟩ | ⟨e1, e⟩⟩ := z
              · exact absurd e c_7
              · exact e
              · exact absurd (show 0 ≤ ((T k)).toInt ∧ ((T k)).toInt < (s.2.2 : Int) by rw [e, ofN_toInt (by omega)]; omega) c_9
            · rw [ovO_n z]
          refine g_if_eq 87 rfl rfl (fun _ => ?_) (fun hc => absurd hc (by decide))
          refine g_iconst (n := (-1)) rfl ?_
          refine g_iastore (n := 64) (f := (fun q => if q < k then (ovO s.2.2 T n) q else m.2.2.1 q)) (h1 := (h.set 63 (.inl (0, 64, .inl (fun q => if q < (k + 1) then (ovO s.2.2 T n) q else m.2.2.1 q))))) rfl h63 (i_in (by omega) (by omega)) (by rw [i_nat ek, ehz, List.set_set, ef _ (eo.symm)]) ?_
          have hrB : (h.set 63 (.inl (0, 64, .inl (fun q => if q < (k + 1) then (ovO s.2.2 T n) q else m.2.2.1 q))))[60]? = some (mO m.1) := by rw [s_set_ne (by decide)]; exact M.1
          have h63B : (h.set 63 (.inl (0, 64, .inl (fun q => if q < (k + 1) then (ovO s.2.2 T n) q else m.2.2.1 q))))[63]? = some (.inl (0, 64, .inl (fun q => if q < (k + 1) then (ovO s.2.2 T n) q else m.2.2.1 q))) := s_set_eq M.2.2.1
          have eB : (if k < k + 1 then (ovO s.2.2 T n) k else m.2.2.1 k) = (ovO s.2.2 T n) k := if_pos (by omega)
          obtain ⟨hy, ehy⟩ : ∃ z, z = (h.set 63 (.inl (0, 64, .inl (fun q => if q < (k + 1) then (ovO s.2.2 T n) q else m.2.2.1 q)))) := ⟨_, rfl⟩
          rw [← ehy] at hrB h63B ⊢
          refine g_aload_n (i := 0) rfl rfl ?_
          refine g_aload_n (i := 0) rfl rfl ?_
          refine g_getfield (v := .ref 63) rfl hrB (by decide) rfl ?_
          refine g_iload (i := 4) rfl rfl ?_
          refine g_iaload (n := 64) (f := (fun q => if q < (k + 1) then (ovO s.2.2 T n) q else m.2.2.1 q)) rfl h63B (i_in (by omega) (by omega)) ?_
          rw [i_nat ek, eB]
          refine g_virt1 (Qc := fun r h' => h' = hy ∧ (((0 ≤ ((ovO s.2.2 T n) k).toInt ∧ ((ovO s.2.2 T n) k).toInt < (s.2.2 : Int)) ∧ r = some (.int 1)) ∨ (¬ (0 ≤ ((ovO s.2.2 T n) k).toInt ∧ ((ovO s.2.2 T n) k).toInt < (s.2.2 : Int)) ∧ r = some (.int 0)))) rfl (by decide) rfl hrB rfl (Nat.le_of_ble_eq_true rfl) (s_hr12 (by omega) hrB sJ.2.2.1 n5) (fun r hy hq9 => ?_)
          obtain ⟨rfl, ⟨c_11, rfl⟩ | ⟨c_11, rfl⟩⟩ := hq9
          · skip
            have ec : (hcN s.2.2 (ovO s.2.2 T n) (k + 1)) = (hcN s.2.2 (ovO s.2.2 T n) k) + 1 := by
              show (hcN s.2.2 (ovO s.2.2 T n) k) + _ = _
              rw [if_pos c_11]
            refine g_if_eq 106 rfl rfl (fun hc => absurd hc (by decide)) (fun _ => ?_)
            refine g_iinc (i := 3) (L1 := [some (.ref 60), some (.int sh), some (.int 0), some (.int ((Int32.ofNat (hcN s.2.2 (ovO s.2.2 T n) k)) + Int32.ofInt 1)), some (.int (Int32.ofNat k)), some (.int (T k))]) rfl rfl rfl ?_
            rw [ofN_add (by omega)]
            refine g_iinc (i := 4) (L1 := [some (.ref 60), some (.int sh), some (.int 0), some (.int (Int32.ofNat (hcN s.2.2 (ovO s.2.2 T n) k + 1))), some (.int ((Int32.ofNat k) + Int32.ofInt 1)), some (.int (T k))]) rfl rfl rfl ?_
            rw [ofN_add (by omega)]
            refine g_goto 22 rfl rfl ?_
            have key := ih (k + 1) (some (.int (T k))) (by omega)
            rw [ec, ← ehy] at key
            exact key
          · skip
            have ec : (hcN s.2.2 (ovO s.2.2 T n) (k + 1)) = (hcN s.2.2 (ovO s.2.2 T n) k) := by
              show (hcN s.2.2 (ovO s.2.2 T n) k) + _ = _
              rw [if_neg c_11, Nat.add_zero]
            refine g_if_eq 106 rfl rfl (fun _ => ?_) (fun hc => absurd hc (by decide))
            refine g_iinc (i := 4) (L1 := [some (.ref 60), some (.int sh), some (.int 0), some (.int (Int32.ofNat (hcN s.2.2 (ovO s.2.2 T n) k))), some (.int ((Int32.ofNat k) + Int32.ofInt 1)), some (.int (T k))]) rfl rfl rfl ?_
            rw [ofN_add (by omega)]
            refine g_goto 22 rfl rfl ?_
            have key := ih (k + 1) (some (.int (T k))) (by omega)
            rw [ec, ← ehy] at key
            exact key
theorem s_ows12 {d : Nat} {h : sHp} {m : MF} {s : Sg} {sz : Nat → Int32} {cl : Nat → Int64} {sh : Int32} {S n : Nat} {T : Nat → Int32} (hd : 4 ≤ d) (M : MC h m) (gM : gdM m.1 s.1 s.2.1) (sJ : sgJ m.1 s) (a6 : h[69]? = some (.inl (0, 8, .inl sz))) (a8 : h[71]? = some (.inl (1, 800, .inr (.inl cl)))) (hs : sh.toInt = S) (hS : S < 8) (hzn : sz S = Int32.ofNat n) (hn1 : n ≤ 100) (RT1 : RT cl S n T) (wt : sDo (d - 1) 184 [.ref 60, .int sh, .int (Int32.ofInt 1)] h (fun r h' => h' = h ∧ r = some (.int 0))) : sDo d 218 [.ref 60, .int sh] h (fun r h' => r = some (.int (Int32.ofNat (hcN s.2.2 (ovO s.2.2 T n) (s.1 * s.2.1)))) ∧ h' = (h.set 63 (.inl (0, 64, .inl (fun q => if q < (s.1 * s.2.1) then (ovO s.2.2 T n) q else m.2.2.1 q))))) := by
  refine sDo_of1 (nL := 6) (L := [some (.ref 60), some (.int sh), none, none, none, none]) (by omega) rfl rfl ?_
  refine g_aload_n (i := 0) rfl rfl ?_
  refine g_iload_n (i := 1) rfl rfl ?_
  refine g_iconst (n := 1) rfl ?_
  refine g_virt2 (Qc := fun r h' => h' = h ∧ r = some (.int 0)) rfl (by decide) rfl M.1 rfl (Nat.le_of_ble_eq_true rfl) (wt) (fun r h hq9 => ?_)
  obtain ⟨rfl, rfl⟩ := hq9
  refine g_istore_n (i := 2) (L1 := [some (.ref 60), some (.int sh), some (.int 0), none, none, none]) rfl (Nat.le_of_ble_eq_true rfl) rfl ?_
  refine g_iconst (n := 0) rfl ?_
  refine g_istore_n (i := 3) (L1 := [some (.ref 60), some (.int sh), some (.int 0), some (.int (Int32.ofInt 0)), none, none]) rfl (Nat.le_of_ble_eq_true rfl) rfl ?_
  refine g_iload_n (i := 2) rfl rfl ?_
  refine g_if_eq 19 rfl rfl (fun _ => ?_) (fun hc => absurd hc (by decide))
  refine g_iconst (n := 0) rfl ?_
  refine g_istore (i := 4) (L1 := [some (.ref 60), some (.int sh), some (.int 0), some (.int (Int32.ofInt 0)), some (.int (Int32.ofInt 0)), none]) rfl (Nat.le_of_ble_eq_true rfl) rfl ?_
  have e0 : h = (h.set 63 (.inl (0, 64, .inl (fun q => if q < 0 then (ovO s.2.2 T n) q else m.2.2.1 q)))) := List.ext_getElem? (fun z => by
    by_cases e : z = 63
    · rw [e, s_set_eq M.2.2.1, M.2.2.1]
      exact congrArg (fun f => (some (.inl (0, 64, .inl f)) : Option va_E)) (funext fun q => (if_neg (Nat.not_lt_zero q)).symm)
    · rw [s_set_ne (Ne.symm e)])
  have key := s_ows12_go (d := d - 1) (by omega) M gM sJ a6 a8 hs hS hzn hn1 RT1 (s.1 * s.2.1) 0 none (Nat.zero_add _)
  rw [← e0] at key
  exact key
theorem s_ows12n {d : Nat} {h : sHp} {R : Nat → Int32} {m : MF} {sh b : Int32} {B : Nat} (hd : 3 ≤ d) (M : MC h m) (hR : h[61]? = some (rFc R)) (hb : b.toInt = -(B : Int)) (hB : 1 ≤ B ∧ B ≤ 7) (wt : sDo (d - 1) 184 [.ref 60, .int sh, .int (Int32.ofInt 1)] h (fun r h' => h' = h ∧ r = some (.int b))) : sDo d 218 [.ref 60, .int sh] h (fun r h' => r = some (.int b) ∧ h' = h.set 61 (rFc (bump R B))) := by
  have hb0 : ¬ b = 0 := fun z => by rw [z] at hb; have e : (0 : Int32).toInt = 0 := rfl; omega
  refine sDo_of1 (nL := 6) (L := [some (.ref 60), some (.int sh), none, none, none, none]) (by omega) rfl rfl ?_
  refine g_aload_n (i := 0) rfl rfl ?_
  refine g_iload_n (i := 1) rfl rfl ?_
  refine g_iconst (n := 1) rfl ?_
  refine g_virt2 (Qc := fun r h' => h' = h ∧ r = some (.int b)) rfl (by decide) rfl M.1 rfl (Nat.le_of_ble_eq_true rfl) (wt) (fun r h hq9 => ?_)
  obtain ⟨rfl, rfl⟩ := hq9
  refine g_istore_n (i := 2) (L1 := [some (.ref 60), some (.int sh), some (.int b), none, none, none]) rfl (Nat.le_of_ble_eq_true rfl) rfl ?_
  refine g_iconst (n := 0) rfl ?_
  refine g_istore_n (i := 3) (L1 := [some (.ref 60), some (.int sh), some (.int b), some (.int (Int32.ofInt 0)), none, none]) rfl (Nat.le_of_ble_eq_true rfl) rfl ?_
  refine g_iload_n (i := 2) rfl rfl ?_
  refine g_if_eq 19 rfl rfl (fun hc => absurd hc (by exact hb0)) (fun _ => ?_)
  refine g_aload_n (i := 0) rfl rfl ?_
  refine g_iload_n (i := 2) rfl rfl ?_
  refine g_virt1 (Qc := fun r h' => r = some (.int b) ∧ h' = h.set 61 (rFc (bump R B))) rfl (by decide) rfl M.1 rfl (Nat.le_of_ble_eq_true rfl) (s_no2 (by omega) M.1 hR hb hB) (fun r h9 hq9 => ?_)
  obtain ⟨rfl, rfl⟩ := hq9
  refine g_ireturn (ty := .int) rfl rfl rfl ?_
  exact ⟨rfl, rfl⟩
theorem pr9_owners (sh : Int32) : pairR bR9 135 218 [.int sh] := pr_wR (c1 := cn_X11_owners_0) (c2 := cn_X12_owners_0) ch_X11_owners_0 ch_X12_owners_0 (by decide +kernel) (by decide +kernel) (by decide +kernel) (by decide +kernel) rfl rfl (fun h hH => ⟨bt0 hH, vI0 sh, trivial⟩) (fun h hH => ⟨bt60 hH, vI0 sh, trivial⟩) (by decide +kernel) (by decide +kernel) (fun h hH hR => by
  obtain ⟨⟨hd, so, sz, co, cl, f, gg, q4, bs⟩, c, ck, m, gk, ik, tf, kc, km, ej, rl, rk⟩ := hR
  have F := kc.1
  have h0 := kc.2.2.1
  have M := km.1
  obtain ⟨R, hR43⟩ := RA_of hH (p := 43) (Or.inl rfl)
  obtain ⟨s, sI, sJ, g, gM⟩ := RN_sg rl.1.1
  have n5 := sI.2.2.2.2.2.2.2
  have hn := gdF_n g
  have PO := rl.2 s sI
  have gd := gM
  obtain ⟨-, -, w2, w8, -, h8⟩ := gd
  obtain ⟨T, s42⟩ : ∃ T : Nat → Int64, h[42]? = some (.inl (1, 7, .inr (.inl T))) := bA60L hH (p := 42) (by decide) rfl
  have q4' := q4
  obtain ⟨a1, a2, a3, a4, a5, a6, a7, a8⟩ := q4'
  have refd : ∀ (b : Int32) (B : Nat), b.toInt = -(B : Int) → (1 ≤ B ∧ B ≤ 7) → sDo 9 161 [.ref 0, .int sh] h (fun r h' => h' = h ∧ r = some (.int b)) → (∀ h1, bH h1 → vO h h1 → sDo 9 184 [.ref 60, .int sh, .int (Int32.ofInt 1)] h1 (fun r h' => h' = h1 ∧ r = some (.int b))) → ∃ (v : Value) (S' : Nat → Int64) (ow' : Nat → Int32), (∀ c m s, RO c m → FC h 5 c → MC h m → sgI c s → PT S' ow' (s.1 * s.2.1)) ∧ sDo 10 135 [.ref 0, .int sh] h (fun r h1 => r = some v ∧ h1[15]? = some (.inl (1, 7, .inr (.inl S'))) ∧ vO h h1) ∧ ∀ h1, bH h1 → vO h h1 → sDo 10 218 [.ref 60, .int sh] h1 (fun r h2 => r = some v ∧ h2[63]? = some (.inl (0, 64, .inl ow'))) := by
    intro b B hb hB hno wt
    refine ⟨.int b, c.2.2.2.2.2.2, m.2.2.1, fun c' m' s' r' F' M' sI' => ?_, sDo_mono (s_ows11n (d := 10) (by omega) h0 hR43 hb hB hno) (fun r h' q => ⟨q.1, by rw [q.2, s_set_ne (by decide)]; exact F.2.2.2.2.2.2, by rw [q.2]; exact vO_43 vO_rfl (by decide)⟩), fun h1 hH1 E => ?_⟩
    · have P' := r'.2 s' sI'
      rw [FC_one F F', MC_one M M'] at P'
      exact P'
    · obtain ⟨Rm, hRm⟩ := RA_of hH1 (p := 61) (Or.inr rfl)
      exact sDo_mono (s_ows12n (d := 10) (by omega) (MC_vO M E) hRm hb hB (wt h1 hH1 E)) (fun r h' q => ⟨q.1, by rw [q.2, s_set_ne (by decide)]; exact (MC_vO M E).2.2.1⟩)
  have wts : ∀ (S : Nat), sh.toInt = S → S < 8 → ∀ h1, bH h1 → vO h h1 → sDo 9 184 [.ref 60, .int sh, .int (Int32.ofInt 1)] h1 (fun r h' => h' = h1 ∧ r = some (.int (nrOf hd S))) := fun S hs hS h1 hH1 E => sDo_mono (s_wantsE (d := 9) (w := Int32.ofInt 1) (by omega) (vO_at E M.1 (by decide)) (vO_at E a4 (by decide)) (Or.inl rfl)) (fun r h' q => ⟨q.1, by
    rcases q.2 with ⟨-, q2⟩ | ⟨y, -⟩
    · rw [q2, show sh.toInt.toNat = S by omega]
      unfold wtS nrOf
      rcases hd_3 (bs S (by omega)) with e | e | e
      · rw [e]; rfl
      · rw [e]; rfl
      · rw [e]; rfl
    · exact absurd (by omega) y⟩)
  by_cases hS : 0 ≤ sh.toInt ∧ sh.toInt < 8
  · obtain ⟨S, hs⟩ : ∃ S : Nat, sh.toInt = S := ⟨sh.toInt.toNat, by omega⟩
    obtain ⟨ot, z, el, b1, b2, b3⟩ := bs S (by omega)
    have hno := s_noIn (d := 7) (el := el) hH q4 hs (by omega) b1 b3
    have wt := wts S hs (by omega)
    have nr0 : hd S = 1 → nrOf hd S = 0 := fun e => by unfold nrOf; rw [if_pos e]
    have nrb : ¬ hd S = 1 → ∃ B : Nat, (2 ≤ B ∧ B ≤ 3) ∧ (nrOf hd S).toInt = -(B : Int) := fun e => by
      unfold nrOf
      rw [if_neg e]
      rcases hd_3 (bs S (by omega)) with y | y | y
      · rw [y]; exact ⟨3, by decide, by decide⟩
      · exact absurd y e
      · rw [y]; exact ⟨2, by decide, by decide⟩
    by_cases e1 : hd S = 1
    · rw [nr0 e1] at hno wt
      rcases b3 with ⟨e, -⟩ | ⟨-, -, eo, o0, o3, ez, z0, z100, eel⟩ | ⟨e, -⟩
      · rw [e1] at e; exact absurd e (by decide)
      · obtain ⟨n, hnn⟩ : ∃ n : Nat, z.toInt = n := ⟨z.toInt.toNat, by omega⟩
        have hz : z = Int32.ofNat n := Int32.toInt_inj.mp (by rw [hnn, ofN_toInt (by omega)])
        have RT1 : RT cl S n (tx el n) := ⟨by omega, by omega, fun i hi => by
            unfold tx
            rw [if_pos hi, eel i (by omega)], fun i hi => if_neg (by omega)⟩
        rw [hz] at b1
        have PL : PT (fun j => if j < 7 then stO (fun q => decide (ovO s.2.2 (tx el n) n q = cdS j)) (s.1 * s.2.1) else T j) (ovO s.2.2 (tx el n) n) (s.1 * s.2.1) := ⟨fun k hk => if_pos hk, fun q _ => by obtain ⟨k, hk⟩ := ovO_ok (N := s.2.2) (T := tx el n) (n := n) (q := q); exact ⟨k, okO_c n5 hk⟩⟩
        have PL2 : PT (cpL (fun j => if j < 7 then stO (fun q => decide (ovO s.2.2 (tx el n) n q = cdS j)) (s.1 * s.2.1) else T j) c.2.2.2.2.2.2 7) (ovO s.2.2 (tx el n) n) (s.1 * s.2.1) := PT_ext hn.1 (fun k hk => if_pos hk) (fun _ _ => rfl) PL
        have hcc := hc_cnt (N := s.2.2) hn.1 n5 PL2 (fun q _ => ovO_ok)
        refine ⟨_, cpL (fun j => if j < 7 then stO (fun q => decide (ovO s.2.2 (tx el n) n q = cdS j)) (s.1 * s.2.1) else T j) c.2.2.2.2.2.2 7, (fun q => if q < s.1 * s.2.1 then ovO s.2.2 (tx el n) n q else m.2.2.1 q), fun c' m' s' r' F' M' sI' => ?_, sDo_mono (s_ows11 (d := 10) (by omega) h0 F g sI a1 hs (by omega) (a2 S (by omega)) b1 b2 (by omega) s42 hno) (fun r h' q => ⟨q.1, by rw [q.2]; exact s_set_eq (by rw [s_set_ne (by decide)]; exact F.2.2.2.2.2.2), by rw [q.2]; exact vO_15 (vO_43 vO_rfl (by decide))⟩), fun h1 hH1 E => sDo_mono (s_ows12 (d := 10) (by omega) (MC_vO M E) gM sJ (vO_at E a6 (by decide)) (vO_at E a8 (by decide)) hs (by omega) (by rw [← ez, hz]) (by omega) RT1 (wt h1 hH1 E)) (fun r h' q => ⟨?_, by rw [q.2]; exact s_set_eq (MC_vO M E).2.2.1⟩)⟩
        · rw [sg_one F F' sI sI']
          exact PT_ext hn.1 (fun _ _ => rfl) (fun q hq => if_pos hq) PL2
        · rw [q.1, hcc]
      · rw [e1] at e; exact absurd e (by decide)
    · obtain ⟨B, hB, eB⟩ := nrb e1
      exact refd _ B eB (by omega) hno wt
  · refine refd (-1) 1 (by decide) (by decide) (s_noOut (d := 7) hS) (fun h1 hH1 E => sDo_mono (s_wantsE (d := 9) (w := Int32.ofInt 1) (by omega) (vO_at E M.1 (by decide)) (vO_at E a4 (by decide)) (Or.inl rfl)) (fun r h' q => ⟨q.1, by
      rcases q.2 with ⟨y, -⟩ | ⟨-, q2⟩
      · exact absurd y hS
      · exact q2⟩)))
