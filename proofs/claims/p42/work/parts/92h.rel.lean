/-! ===== which cuts fit: old, sure ===== -/
theorem ls_k {W H : Nat} {b4 b32 : Bool} (w8 : W ≤ 8) (h8 : H ≤ 8) : ∀ C ∈ lsT W H b4 b32, C < 7000 ∧ ¬ C / 1000 = 3 := by
  have key : ((List.range 9).all fun W => (List.range 9).all fun H => (lsT W H true true).all fun C => Nat.blt C 7000 && !(Nat.beq (C / 1000) 3)) = true := by decide +kernel
  have k := List.all_eq_true.mp (rg_all (rg_all key W (by omega)) H (by omega))
  have sub : ∀ C, C ∈ lsT W H b4 b32 → C ∈ lsT W H true true := fun C hC => by
    unfold lsT at hC ⊢
    rw [if_pos rfl, if_pos rfl]
    simp only [List.mem_append] at hC ⊢
    rcases hC with h | h | h | h
    · exact Or.inl h
    · refine Or.inr (Or.inl ?_)
      cases b4
      · exact absurd h (by intro z; cases z)
      · exact h
    · exact Or.inr (Or.inr (Or.inl h))
    · refine Or.inr (Or.inr (Or.inr ?_))
      cases b32
      · exact absurd h (by intro z; cases z)
      · exact h
  intro C hC
  have h := k C (sub C hC)
  simp only [Bool.and_eq_true, Bool.not_eq_true'] at h
  exact ⟨Nat.le_of_ble_eq_true h.1, fun z => by have := h.2; rw [z] at this; cases this⟩
theorem ls_len {W H : Nat} {b4 b32 : Bool} (w8 : W ≤ 8) (h8 : H ≤ 8) : (lsT W H b4 b32).length ≤ 644 := by
  have := ls_le w8 h8
  have := bif_len (b := b4) (L := bnT1 W H (W + 1) 0)
  have := bif_len (b := b32) (L := frT1 W H W 1)
  unfold lsT
  simp only [List.length_append]
  omega
theorem fit_iff2 {W N C sz : Nat} {T : Nat → Int32} (hN : N ≤ 64) (hC : ¬ C / 1000 = 3) : (toS N T sz 0 &&& (fsS W N C ^^^ lM1) = Int64.ofNat 0 ∧ toS N T sz 1 &&& fsS W N C = Int64.ofNat 0) ↔ fitP W N C T sz := by
  have sd : ∀ q, sdC W C q = if isF W C q = true then 0 else 1 := fun q => by unfold sdC; rw [if_neg (fun z => hC z.1)]
  rw [bt_eq0, bt_eq0]
  unfold fitP toS fsS
  constructor
  · rintro ⟨k1, k2⟩ q h1 h2
    have k1 := k1 q (by omega)
    have k2 := k2 q (by omega)
    rw [bt_and, bt_not, bt_stO _ _ hN, bt_stO _ _ hN, decide_eq_true h1, decide_eq_true h2, decide_eq_true (show q < 64 by omega), Bool.true_and, Bool.true_and, Bool.true_and, Bool.true_and] at k1
    rw [bt_and, bt_stO _ _ hN, bt_stO _ _ hN, decide_eq_true h1, decide_eq_true h2, Bool.true_and, Bool.true_and, Bool.true_and] at k2
    rw [sd]
    refine ⟨fun z => ?_, fun z => ?_⟩
    · rw [decide_eq_true z, Bool.true_and, Bool.not_eq_false'] at k1
      rw [if_pos k1]
    · rw [decide_eq_true z, Bool.true_and] at k2
      rw [if_neg (by rw [k2]; decide)]
  · intro h
    refine ⟨fun q hq => ?_, fun q hq => ?_⟩
    · rw [bt_and, bt_not, bt_stO _ _ hN, bt_stO _ _ hN, decide_eq_true hq, Bool.true_and]
      by_cases h1 : q < N
      · by_cases h2 : q < sz
        · have k := h q h1 h2
          rw [sd] at k
          rw [decide_eq_true h1, decide_eq_true h2, Bool.true_and, Bool.true_and, Bool.true_and]
          by_cases z : T q = 0
          · have k1 := k.1 z
            by_cases y : isF W C q = true
            · rw [y, Bool.not_true, Bool.and_false]
            · rw [if_neg y] at k1; omega
          · rw [decide_eq_false z, Bool.false_and]
        · rw [decide_eq_false h2]; simp
      · rw [decide_eq_false h1]; simp
    · rw [bt_and, bt_stO _ _ hN, bt_stO _ _ hN]
      by_cases h1 : q < N
      · by_cases h2 : q < sz
        · have k := h q h1 h2
          rw [sd] at k
          rw [decide_eq_true h1, decide_eq_true h2, Bool.true_and, Bool.true_and, Bool.true_and]
          by_cases z : T q = 1
          · have k1 := k.2 z
            by_cases y : isF W C q = true
            · rw [if_pos y] at k1; omega
            · rw [nTF y, Bool.and_false]
          · rw [decide_eq_false z, Bool.false_and]
        · rw [decide_eq_false h2]; simp
      · rw [decide_eq_false h1]; simp
noncomputable def fcN (W N : Nat) (T : Nat → Int32) (sz : Nat) : List Nat → Nat → Nat
  | [], n => n
  | C :: L, n => @ite _ (fitP W N C T sz) (Classical.propDecidable _) (fcN W N T sz L (n + 1)) (fcN W N T sz L n)
noncomputable def fcX (W N : Nat) (T : Nat → Int32) (sz : Nat) (v : Int) : List Nat → Int64 → Int64
  | [], x => x
  | C :: L, x => @ite _ (fitP W N C T sz) (Classical.propDecidable _) (fcX W N T sz v L (x &&& sdS W N C v)) (fcX W N T sz v L x)
theorem fcN_y {W N sz C n : Nat} {T : Nat → Int32} {L : List Nat} (h : fitP W N C T sz) : fcN W N T sz (C :: L) n = fcN W N T sz L (n + 1) := @if_pos _ (Classical.propDecidable _) h _ _ _
theorem fcN_n {W N sz C n : Nat} {T : Nat → Int32} {L : List Nat} (h : ¬ fitP W N C T sz) : fcN W N T sz (C :: L) n = fcN W N T sz L n := @if_neg _ (Classical.propDecidable _) h _ _ _
theorem fcX_y {W N sz C : Nat} {T : Nat → Int32} {v : Int} {L : List Nat} {x : Int64} (h : fitP W N C T sz) : fcX W N T sz v (C :: L) x = fcX W N T sz v L (x &&& sdS W N C v) := @if_pos _ (Classical.propDecidable _) h _ _ _
theorem fcX_n {W N sz C : Nat} {T : Nat → Int32} {v : Int} {L : List Nat} {x : Int64} (h : ¬ fitP W N C T sz) : fcX W N T sz v (C :: L) x = fcX W N T sz v L x := @if_neg _ (Classical.propDecidable _) h _ _ _
theorem fcN_ge {W N sz : Nat} {T : Nat → Int32} : ∀ {L : List Nat} {n : Nat}, n ≤ fcN W N T sz L n ∧ fcN W N T sz L n ≤ n + L.length := by
  intro L
  induction L with
  | nil => intro n; exact ⟨Nat.le_refl _, Nat.le_refl _⟩
  | cons C L ih =>
    intro n
    by_cases h : fitP W N C T sz
    · rw [fcN_y h, List.length_cons]; have := ih (n := n + 1); omega
    · rw [fcN_n h, List.length_cons]; have := ih (n := n); omega
theorem sd1_of {W N C : Nat} {x : Int64} (hN : N ≤ 64) (hC : ¬ C / 1000 = 3) (hx : inN x N) : x &&& (fsS W N C ^^^ lM1) = x &&& sdS W N C 1 := bt_ext (fun q hq => by
  rw [bt_and, bt_and, bt_not]
  unfold fsS sdS
  rw [bt_stO _ _ hN, bt_stO _ _ hN, decide_eq_true hq, Bool.true_and]
  by_cases z : bt x q = true
  · have h1 := hx q hq z
    rw [z, decide_eq_true h1, Bool.true_and, Bool.true_and, Bool.true_and, Bool.true_and]
    unfold sdC
    rw [if_neg (fun z => hC z.1)]
    cases isF W C q <;> rfl
  · rw [nTF z, Bool.false_and, Bool.false_and])
theorem inN_and {x y : Int64} {n : Nat} (h : inN x n) : inN (x &&& y) n := fun i hi z => h i hi (by rw [bt_and, Bool.and_eq_true] at z; exact z.1)
theorem inN_all {n : Nat} (hn : n ≤ 64) : inN (stO (fun _ => true) n) n := fun i hi z => by
  rw [bt_stO _ _ hn, Bool.and_true] at z
  exact of_decide_eq_true z
theorem s_ff_go {d : Nat} {h0 : sHp} {c : CF} {W H n : Nat} {T : Nat → Int32} {L : List Nat} {ff : Nat → Int64} {tp : Nat} {B0 : Nat → Int32} (hd : 1 ≤ d) (g : gdF c W H) (hk : ∀ C ∈ L, C < 7000 ∧ ¬ C / 1000 = 3) (hl : L.length ≤ 644) (p2 : ∀ i C, L[i]? = some C → ff i = fsS W (W * H) C) : ∀ (R P : List Nat) (m : Nat) (x1 x2 : Int64) (B : Nat → Int32) (h : sHp), L = P ++ R → m ≤ P.length → h[38]? = some (sO B x1 x2) → (∀ j, j ≠ 1 → B j = B0 j) → B0 6 = Int32.ofNat L.length → B 1 = Int32.ofNat m → h[40]? = some (.inl (1, 644, .inr (.inl ff))) → inN x2 (W * H) → scE h0 h → sGo none 103 d 46 [some (.ref 38), some (.ref 5), some (.ref tp), some (.long (toS (W * H) T n 0)), none, some (.long (toS (W * H) T n 1)), none, some (.int (Int32.ofNat P.length))] [] h (fun r h' => r = none ∧ scE h0 h' ∧ ∃ B', h'[38]? = some (sO B' (if fcN W (W * H) T n R m = 0 then Int64.ofNat 0 else fcX W (W * H) T n 0 R x1) (if fcN W (W * H) T n R m = 0 then Int64.ofNat 0 else fcX W (W * H) T n 1 R x2)) ∧ B' 1 = Int32.ofNat (fcN W (W * H) T n R m)) := by
  have hn := gdF_n g
  intro R
  induction R with
  | nil =>
    intro P m x1 x2 B h hL hm hS b0 b6 b1 h40 hx E
    rw [List.append_nil] at hL
    subst hL
    have ei := ofN_toInt (n := L.length) (by omega)
    have e6 : (B 6).toInt = ((L.length : Nat) : Int) := by rw [b0 6 (by decide), b6]; exact ei
    have em := ofN_toInt (n := m) (by omega)
    have e1 : (B 1).toInt = ((m : Nat) : Int) := by rw [b1]; exact em
    show sGo none 103 d 46 _ [] h (fun r h' => r = none ∧ scE h0 h' ∧ ∃ B', h'[38]? = some (sO B' (if m = 0 then Int64.ofNat 0 else x1) (if m = 0 then Int64.ofNat 0 else x2)) ∧ B' 1 = Int32.ofNat m)
    refine g_iload (i := 7) rfl rfl ?_
    refine g_aload_n (i := 0) rfl rfl ?_
    refine g_getfield (v := .int (B 6)) rfl hS (by decide) rfl ?_
    refine g_icmp_ge 140 rfl rfl (fun _ => ?_) (fun hc => absurd hc (by rw [i_le, e6, ei]; omega))
    refine g_aload_n (i := 0) rfl rfl ?_
    refine g_getfield (v := .int (B 1)) rfl hS (by decide) rfl ?_
    have k_2 : (0 : Int32).toInt = 0 := rfl
    refine g_if_ne 157 rfl rfl (fun c_1 => ?_) (fun c_1 => ?_)
    · skip
      rw [i_eq, e1, k_2] at c_1
      refine g_return rfl rfl ?_
      exact ⟨rfl, E, B, by rw [if_neg (show ¬ m = 0 by omega), if_neg (show ¬ m = 0 by omega)]; exact hS, b1⟩
    · skip
      rw [i_eq, e1, k_2] at c_1
      refine g_aload_n (i := 0) rfl rfl ?_
      refine g_lconst (n := 0) rfl ?_
      show sGo none 103 _ 149 [some (.ref 38), some (.ref 5), some (.ref tp), some (.long (toS (W * H) T n 0)), none, some (.long (toS (W * H) T n 1)), none, some (.int (Int32.ofNat L.length))] [.long (Int64.ofNat 0), .ref 38] _ _
      refine g_putfield (h1 := h.set 38 (sO B (Int64.ofNat 0) x2)) rfl hS (by decide) (Nat.le_of_ble_eq_true rfl) rfl rfl ?_
      have hS1 : (h.set 38 (sO B (Int64.ofNat 0) x2))[38]? = some (sO B (Int64.ofNat 0) x2) := s_set_eq hS
      refine g_aload_n (i := 0) rfl rfl ?_
      refine g_lconst (n := 0) rfl ?_
      show sGo none 103 _ 154 [some (.ref 38), some (.ref 5), some (.ref tp), some (.long (toS (W * H) T n 0)), none, some (.long (toS (W * H) T n 1)), none, some (.int (Int32.ofNat L.length))] [.long (Int64.ofNat 0), .ref 38] _ _
      refine g_putfield (h1 := h.set 38 (sO B (Int64.ofNat 0) (Int64.ofNat 0))) rfl hS1 (by decide) (Nat.le_of_ble_eq_true rfl) rfl (by rw [List.set_set]; rfl) ?_
      refine g_return rfl rfl ?_
      exact ⟨rfl, scE_set E (by decide), B, by rw [if_pos (show m = 0 by omega), if_pos (show m = 0 by omega)]; exact s_set_eq hS, b1⟩
  | cons C R ih =>
    intro P m x1 x2 B h hL hm hS b0 b6 b1 h40 hx E
    have hlen : L.length = P.length + (R.length + 1) := by rw [hL, List.length_append, List.length_cons]
    have ei := ofN_toInt (n := P.length) (by omega)
    have e6 : (B 6).toInt = ((L.length : Nat) : Int) := by rw [b0 6 (by decide), b6]; exact ofN_toInt (by omega)
    have hC := hk C (by rw [hL]; exact List.mem_append_right _ (List.mem_cons_self ..))
    have hat : L[P.length]? = some C := by rw [hL, List.getElem?_append_right (Nat.le_refl _), Nat.sub_self]; rfl
    have hff := p2 P.length C hat
    have fi := fit_iff2 (W := W) (sz := n) (T := T) hn.1 hC.2
    have hL2 : L = (P ++ [C]) ++ R := by rw [hL, List.append_assoc]; rfl
    have hP1 : (P ++ [C]).length = P.length + 1 := by rw [List.length_append]; rfl
    have e1 : (B 1).toInt = ((m : Nat) : Int) := by rw [b1]; exact ofN_toInt (by omega)
    refine g_iload (i := 7) rfl rfl ?_
    refine g_aload_n (i := 0) rfl rfl ?_
    refine g_getfield (v := .int (B 6)) rfl hS (by decide) rfl ?_
    refine g_icmp_ge 140 rfl rfl (fun hc => absurd hc (by rw [i_le, e6, ei]; omega)) (fun _ => ?_)
    refine g_lload_n (i := 3) rfl rfl ?_
    refine g_aload_n (i := 0) rfl rfl ?_
    refine g_getfield (v := .ref 40) rfl hS (by decide) rfl ?_
    refine g_iload (i := 7) rfl rfl ?_
    refine g_laload (n := 644) (f := ff) rfl h40 (i_in (by omega) (by omega)) ?_
    rw [i_nat ei, hff]
    refine g_ldc2_w (j := 18446744073709551615) rfl ?_
    refine g_lxor rfl ?_
    refine g_land rfl ?_
    refine g_lconst (n := 0) rfl ?_
    show sGo none 103 _ 69 [some (.ref 38), some (.ref 5), some (.ref tp), some (.long (toS (W * H) T n 0)), none, some (.long (toS (W * H) T n 1)), none, some (.int (Int32.ofNat P.length))] [.long (Int64.ofNat 0), .long ((toS (W * H) T n 0) &&& ((fsS W (W * H) C) ^^^ (Int64.ofNat 18446744073709551615)))] _ _
    refine g_lcmp rfl ?_
    refine g_if_ne 134 rfl rfl (fun c_1 => ?_) (fun c_1 => ?_)
    · skip
      rw [lc_eq] at c_1
      refine g_iinc (i := 7) (L1 := [some (.ref 38), some (.ref 5), some (.ref tp), some (.long (toS (W * H) T n 0)), none, some (.long (toS (W * H) T n 1)), none, some (.int ((Int32.ofNat P.length) + Int32.ofInt 1))]) rfl rfl rfl ?_
      rw [ofN_add (by omega)]
      refine g_goto 46 rfl rfl ?_
      have hfit : ¬ fitP W (W * H) C T n := fun z => c_1 (fi.mpr z).1
      rw [fcN_n hfit, fcX_n hfit, fcX_n hfit]
      have key := ih (P ++ [C]) m x1 x2 B h hL2 (by omega) hS b0 b6 b1 h40 hx E
      rw [hP1] at key
      exact key
    · skip
      rw [lc_eq] at c_1
      refine g_lload (i := 5) rfl rfl ?_
      refine g_aload_n (i := 0) rfl rfl ?_
      refine g_getfield (v := .ref 40) rfl hS (by decide) rfl ?_
      refine g_iload (i := 7) rfl rfl ?_
      refine g_laload (n := 644) (f := ff) rfl h40 (i_in (by omega) (by omega)) ?_
      rw [i_nat ei, hff]
      refine g_land rfl ?_
      refine g_lconst (n := 0) rfl ?_
      show sGo none 103 _ 84 [some (.ref 38), some (.ref 5), some (.ref tp), some (.long (toS (W * H) T n 0)), none, some (.long (toS (W * H) T n 1)), none, some (.int (Int32.ofNat P.length))] [.long (Int64.ofNat 0), .long ((toS (W * H) T n 1) &&& (fsS W (W * H) C))] _ _
      refine g_lcmp rfl ?_
      refine g_if_ne 134 rfl rfl (fun c_2 => ?_) (fun c_2 => ?_)
      · skip
        rw [lc_eq] at c_2
        refine g_iinc (i := 7) (L1 := [some (.ref 38), some (.ref 5), some (.ref tp), some (.long (toS (W * H) T n 0)), none, some (.long (toS (W * H) T n 1)), none, some (.int ((Int32.ofNat P.length) + Int32.ofInt 1))]) rfl rfl rfl ?_
        rw [ofN_add (by omega)]
        refine g_goto 46 rfl rfl ?_
        have hfit : ¬ fitP W (W * H) C T n := fun z => c_2 (fi.mpr z).2
        rw [fcN_n hfit, fcX_n hfit, fcX_n hfit]
        have key := ih (P ++ [C]) m x1 x2 B h hL2 (by omega) hS b0 b6 b1 h40 hx E
        rw [hP1] at key
        exact key
      · skip
        rw [lc_eq] at c_2
        refine g_aload_n (i := 0) rfl rfl ?_
        refine g_dup rfl rfl ?_
        refine g_getfield (v := .int (B 1)) rfl hS (by decide) rfl ?_
        refine g_iconst (n := 1) rfl ?_
        have k_3 : (Int32.ofInt 1).toInt = 1 := rfl
        refine g_iadd rfl ?_
        have t_4 : ((B 1) + (Int32.ofInt 1)).toInt = ((m + 1 : Nat) : Int) := by rw [i_add (by rw [e1, k_3]; omega) (by rw [e1, k_3]; omega), e1, k_3]; omega
        rw [b1, ofN_add (by omega)]
        refine g_putfield (h1 := h.set 38 (sO (upd B 1 (Int32.ofNat (m + 1))) x1 x2)) rfl hS (by decide) (Nat.le_of_ble_eq_true rfl) rfl rfl ?_
        have hS1 : (h.set 38 (sO (upd B 1 (Int32.ofNat (m + 1))) x1 x2))[38]? = some (sO (upd B 1 (Int32.ofNat (m + 1))) x1 x2) := s_set_eq hS
        refine g_aload_n (i := 0) rfl rfl ?_
        refine g_dup rfl rfl ?_
        refine g_getfield (v := .long x1) rfl hS1 (by decide) rfl ?_
        refine g_aload_n (i := 0) rfl rfl ?_
        refine g_getfield (v := .ref 40) rfl hS1 (by decide) rfl ?_
        refine g_iload (i := 7) rfl rfl ?_
        refine g_laload (n := 644) (f := ff) rfl (by rw [s_set_ne (by decide)]; exact h40) (i_in (by omega) (by omega)) ?_
        rw [i_nat ei, hff]
        refine g_land rfl ?_
        refine g_putfield (h1 := h.set 38 (sO (upd B 1 (Int32.ofNat (m + 1))) (x1 &&& fsS W (W * H) C) x2)) rfl hS1 (by decide) (Nat.le_of_ble_eq_true rfl) rfl (by rw [List.set_set]; rfl) ?_
        have hS2 : (h.set 38 (sO (upd B 1 (Int32.ofNat (m + 1))) (x1 &&& fsS W (W * H) C) x2))[38]? = some (sO (upd B 1 (Int32.ofNat (m + 1))) (x1 &&& fsS W (W * H) C) x2) := s_set_eq hS
        refine g_aload_n (i := 0) rfl rfl ?_
        refine g_dup rfl rfl ?_
        refine g_getfield (v := .long x2) rfl hS2 (by decide) rfl ?_
        refine g_aload_n (i := 0) rfl rfl ?_
        refine g_getfield (v := .ref 40) rfl hS2 (by decide) rfl ?_
        refine g_iload (i := 7) rfl rfl ?_
        refine g_laload (n := 644) (f := ff) rfl (by rw [s_set_ne (by decide)]; exact h40) (i_in (by omega) (by omega)) ?_
        rw [i_nat ei, hff]
        refine g_ldc2_w (j := 18446744073709551615) rfl ?_
        refine g_lxor rfl ?_
        refine g_land rfl ?_
        refine g_putfield (h1 := h.set 38 (sO (upd B 1 (Int32.ofNat (m + 1))) (x1 &&& fsS W (W * H) C) (x2 &&& (fsS W (W * H) C ^^^ lM1)))) rfl hS2 (by decide) (Nat.le_of_ble_eq_true rfl) rfl (by rw [List.set_set]; rfl) ?_
        refine g_iinc (i := 7) (L1 := [some (.ref 38), some (.ref 5), some (.ref tp), some (.long (toS (W * H) T n 0)), none, some (.long (toS (W * H) T n 1)), none, some (.int ((Int32.ofNat P.length) + Int32.ofInt 1))]) rfl rfl rfl ?_
        rw [ofN_add (by omega)]
        refine g_goto 46 rfl rfl ?_
        have hfit := fi.mp ⟨c_1, c_2⟩
        rw [fcN_y hfit, fcX_y hfit, fcX_y hfit, ← sdS_0 hn.1, ← sd1_of hn.1 hC.2 hx]
        have key := ih (P ++ [C]) (m + 1) (x1 &&& fsS W (W * H) C) (x2 &&& (fsS W (W * H) C ^^^ lM1)) (upd B 1 (Int32.ofNat (m + 1))) _ hL2 (by omega) (s_set_eq hS) (fun j hj => (u_ne hj).trans (b0 j hj)) b6 u_at (by rw [s_set_ne (by decide)]; exact h40) (inN_and hx) (scE_set E (by decide))
        rw [hP1] at key
        exact key
theorem s_findFitting {d : Nat} {h : sHp} {c : CF} {W H : Nat} {tp ep n : Nat} {ot : Int32} {el : Nat → Int64} {B : Nat → Int32} {S1 S2 : Int64} {fc : Nat → Int32} {ff : Nat → Int64} (hd : 7 ≤ d) (F : FC h 5 c) (g : gdF c W H) (ht : h[tp]? = some (.inr (7, [.int ot, .int (Int32.ofNat n), .ref ep]))) (he : h[ep]? = some (.inl (1, 100, .inr (.inl el)))) (hn1 : n ≤ 100) (hte : tp < 38 ∨ 40 < tp) (hS : h[38]? = some (sO B S1 S2)) (h39 : h[39]? = some (.inl (0, 644, .inl fc))) (h40 : h[40]? = some (.inl (1, 644, .inr (.inl ff)))) : sDo d 103 [.ref 38, .ref 5, .ref tp] h (fun r h' => r = none ∧ scE h h' ∧ ∃ B', h'[38]? = some (sO B' (if fcN W (W * H) (tx el n) n (lsT W H true true) 0 = 0 then Int64.ofNat 0 else fcX W (W * H) (tx el n) n 0 (lsT W H true true) (stO (fun _ => true) (W * H))) (if fcN W (W * H) (tx el n) n (lsT W H true true) 0 = 0 then Int64.ofNat 0 else fcX W (W * H) (tx el n) n 1 (lsT W H true true) (stO (fun _ => true) (W * H)))) ∧ B' 1 = Int32.ofNat (fcN W (W * H) (tx el n) n (lsT W H true true) 0)) := by
  have g2 := g.2.2.2.2.2.2.1
  have w8 := g.2.2.2.1
  have h8 := g.2.2.2.2.2.1
  have hn := gdF_n g
  refine sDo_of1 (nL := 8) (L := [some (.ref 38), some (.ref 5), some (.ref tp), none, none, none, none, none]) (by omega) rfl rfl ?_
  refine g_aload_n (i := 1) rfl rfl ?_
  refine g_aload_n (i := 2) rfl rfl ?_
  refine g_iconst (n := 0) rfl ?_
  refine g_virt2 (Qc := fun r h' => h' = h ∧ r = some (.long (toS (W * H) (tx el n) n 0))) rfl (by decide) rfl F.1 rfl (Nat.le_of_ble_eq_true rfl) (s_toldBy (v := (Int32.ofInt 0)) (by omega) F g ht he hn1) (fun r h hq9 => ?_)
  obtain ⟨rfl, rfl⟩ := hq9
  refine g_lstore_n (i := 3) (L1 := [some (.ref 38), some (.ref 5), some (.ref tp), some (.long (toS (W * H) (tx el n) n 0)), none, none, none, none]) rfl (Nat.le_of_ble_eq_true rfl) rfl ?_
  refine g_aload_n (i := 1) rfl rfl ?_
  refine g_aload_n (i := 2) rfl rfl ?_
  refine g_iconst (n := 1) rfl ?_
  refine g_virt2 (Qc := fun r h' => h' = h ∧ r = some (.long (toS (W * H) (tx el n) n 1))) rfl (by decide) rfl F.1 rfl (Nat.le_of_ble_eq_true rfl) (s_toldBy (v := (Int32.ofInt 1)) (by omega) F g ht he hn1) (fun r h hq9 => ?_)
  obtain ⟨rfl, rfl⟩ := hq9
  refine g_lstore (i := 5) (L1 := [some (.ref 38), some (.ref 5), some (.ref tp), some (.long (toS (W * H) (tx el n) n 0)), none, some (.long (toS (W * H) (tx el n) n 1)), none, none]) rfl (Nat.le_of_ble_eq_true rfl) rfl ?_
  refine g_aload_n (i := 0) rfl rfl ?_
  refine g_iconst (n := 0) rfl ?_
  refine g_putfield (h1 := h.set 38 (sO (upd B 1 (Int32.ofInt 0)) S1 S2)) rfl hS (by decide) (Nat.le_of_ble_eq_true rfl) rfl rfl ?_
  have hA : (h.set 38 (sO (upd B 1 (Int32.ofInt 0)) S1 S2))[38]? = some (sO (upd B 1 (Int32.ofInt 0)) S1 S2) := s_set_eq hS
  have FhA := FC_out (q := 38) (x := sO (upd B 1 (Int32.ofInt 0)) S1 S2) F (by omega)
  refine g_aload_n (i := 0) rfl rfl ?_
  refine g_aload_n (i := 1) rfl rfl ?_
  refine g_getfield (v := .long (c.2.1 2)) rfl FhA.1 (by decide) rfl ?_
  refine g_putfield (h1 := h.set 38 (sO (upd B 1 (Int32.ofInt 0)) (c.2.1 2) S2)) rfl hA (by decide) (Nat.le_of_ble_eq_true rfl) rfl (by rw [List.set_set]; rfl) ?_
  have hB : (h.set 38 (sO (upd B 1 (Int32.ofInt 0)) (c.2.1 2) S2))[38]? = some (sO (upd B 1 (Int32.ofInt 0)) (c.2.1 2) S2) := s_set_eq hS
  have FhB := FC_out (q := 38) (x := sO (upd B 1 (Int32.ofInt 0)) (c.2.1 2) S2) F (by omega)
  refine g_aload_n (i := 0) rfl rfl ?_
  refine g_aload_n (i := 1) rfl rfl ?_
  refine g_getfield (v := .long (c.2.1 2)) rfl FhB.1 (by decide) rfl ?_
  refine g_putfield (h1 := h.set 38 (sO (upd B 1 (Int32.ofInt 0)) (c.2.1 2) (c.2.1 2))) rfl hB (by decide) (Nat.le_of_ble_eq_true rfl) rfl (by rw [List.set_set]; rfl) ?_
  have hC : (h.set 38 (sO (upd B 1 (Int32.ofInt 0)) (c.2.1 2) (c.2.1 2)))[38]? = some (sO (upd B 1 (Int32.ofInt 0)) (c.2.1 2) (c.2.1 2)) := s_set_eq hS
  have FhC := FC_out (q := 38) (x := sO (upd B 1 (Int32.ofInt 0)) (c.2.1 2) (c.2.1 2)) F (by omega)
  refine g_aload_n (i := 0) rfl rfl ?_
  refine g_aload_n (i := 1) rfl rfl ?_
  refine g_iconst (n := 1) rfl ?_
  refine g_iconst (n := 1) rfl ?_
  have hls := s_listCuts (d := d - 1) (x2 := Int32.ofInt 1) (x3 := Int32.ofInt 1) (fc := fc) (ff := ff) true true (by omega) FhC g hC (by rw [s_set_ne (by decide)]; exact h39) (by rw [s_set_ne (by decide)]; exact h40) (by decide) (by decide)
  refine g_virt3 rfl (by decide) rfl hC rfl (Nat.le_of_ble_eq_true rfl) hls (fun r h2 hq => ?_)
  obtain ⟨rfl, ⟨B2, fc2, ff2, hS2, bb, b6, g39, g40, p1, p2⟩, E2⟩ := hq
  refine g_iconst (n := 0) rfl ?_
  refine g_istore (i := 7) (L1 := [some (.ref 38), some (.ref 5), some (.ref tp), some (.long (toS (W * H) (tx el n) n 0)), none, some (.long (toS (W * H) (tx el n) n 1)), none, some (.int (Int32.ofInt 0))]) rfl (Nat.le_of_ble_eq_true rfl) rfl ?_
  have EE : scE h h2 := scE_tr (scE_set scE_rfl (by decide)) E2
  have key := s_ff_go (d := d - 1) (h0 := h) (T := tx el n) (n := n) (tp := tp) (B0 := B2) (by omega) g (ls_k w8 h8) (ls_len w8 h8) p2 (lsT W H true true) [] 0 (c.2.1 2) (c.2.1 2) B2 h2 rfl (by decide) hS2 (fun _ _ => rfl) b6 ((bb 1 (by decide)).trans u_at) g40 (by rw [g2]; exact inN_all hn.1) EE
  rw [g2] at key
  exact key
