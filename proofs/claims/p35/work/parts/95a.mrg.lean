section
/-! ===== hedges of both ===== -/
def hsP (W n : Nat) (P : Nat → Bool) : Nat → Nat
  | 0 => 0
  | q + 1 => hsP W n P q + ((if (decide (q % W + 1 < W) && (P q && P (q + 1))) = true then 1 else 0) + (if (decide (q + W < n) && (P q && P (q + W))) = true then 1 else 0))
def hdN (W n : Nat) (ow : Nat → Int32) : Nat → Nat
  | 0 => 0
  | q + 1 => hdN W n ow q + ((if q % W + 1 < W ∧ ¬ ow q = ow (q + 1) then 1 else 0) + (if q + W < n ∧ ¬ ow q = ow (q + W) then 1 else 0))
def htN (W n : Nat) : Nat → Nat
  | 0 => 0
  | q + 1 => htN W n q + ((if q % W + 1 < W then 1 else 0) + (if q + W < n then 1 else 0))
def edC (L : Int64) (w : Int32) (x : Int64) : Nat := cnt ((x &&& (L ^^^ Int64.ofNat 18446744073709551615)) &&& (((x).toUInt64 >>> ((Int32.ofInt 1).toInt64.toUInt64 &&& Int64.toUInt64 63)).toInt64)) + cnt (x &&& (((x).toUInt64 >>> ((w).toInt64.toUInt64 &&& Int64.toUInt64 63)).toInt64))
def hlN (L : Int64) (w : Int32) (S : Nat → Int64) : Nat → Nat
  | 0 => 0
  | k + 1 => hlN L w S k + edC L w (S k)
theorem hdN_le {W n : Nat} {ow : Nat → Int32} : ∀ q, hdN W n ow q ≤ 2 * q := by
  intro q
  induction q with
  | zero => exact Nat.le_refl _
  | succ q ih =>
    show hdN W n ow q + (_ + _) ≤ _
    split <;> split <;> omega
theorem htN_le {W n : Nat} : ∀ q, htN W n q ≤ 2 * q := by
  intro q
  induction q with
  | zero => exact Nat.le_refl _
  | succ q ih =>
    show htN W n q + (_ + _) ≤ _
    split <;> split <;> omega
theorem edC_le {L : Int64} {w : Int32} {x : Int64} : edC L w x ≤ 128 := by
  unfold edC
  exact Nat.add_le_add (cnt_le _) (cnt_le _)
theorem hlN_le {L : Int64} {w : Int32} {S : Nat → Int64} : ∀ k, hlN L w S k ≤ 128 * k := by
  intro k
  induction k with
  | zero => exact Nat.le_refl _
  | succ k ih =>
    show hlN L w S k + edC L w (S k) ≤ _
    have := edC_le (L := L) (w := w) (x := S k)
    omega
theorem cntB_add {x y : Int64} {W n : Nat} {P : Nat → Bool} (hx : ∀ q, q < n → bt x q = (decide (q % W + 1 < W) && (P q && P (q + 1)))) (hy : ∀ q, q < n → bt y q = (decide (q + W < n) && (P q && P (q + W)))) : ∀ k, k ≤ n → cntB x k + cntB y k = hsP W n P k := by
  intro k
  induction k with
  | zero => intro _; rfl
  | succ k ih =>
    intro hk
    have i := ih (by omega)
    show (cntB x k + (if bt x k = true then 1 else 0)) + (cntB y k + (if bt y k = true then 1 else 0)) = hsP W n P k + _
    rw [hx k (by omega), hy k (by omega)]
    omega
theorem ed_hs {W H : Nat} {P : Nat → Bool} {L : Int64} {w : Int32} (w2 : 2 ≤ W) (w8 : W ≤ 8) (h8 : H ≤ 8) (hL : L = stO (fun i => decide (i % W = W - 1)) (W * H)) (hw : w = Int32.ofNat W) : edC L w (stO P (W * H)) = hsP W (W * H) P (W * H) := by
  have hn := wh_le8 w8 h8
  have nx : ∀ q, q < W * H → q % W + 1 < W → q + 1 < W * H := fun q hq z => nxt_in W (by omega) H (by omega) q (by omega) hq z
  have k1 : ∀ q, q < W * H → bt ((stO P (W * H) &&& (L ^^^ Int64.ofNat 18446744073709551615)) &&& (((stO P (W * H)).toUInt64 >>> ((Int32.ofInt 1).toInt64.toUInt64 &&& Int64.toUInt64 63)).toInt64)) q = (decide (q % W + 1 < W) && (P q && P (q + 1))) := fun q hq => by
    have e := bt_ushr (k := 1) (by decide) (stO P (W * H)) q
    have e2 : bt (((stO P (W * H)).toUInt64 >>> ((Int32.ofInt 1).toInt64.toUInt64 &&& Int64.toUInt64 63)).toInt64) q = bt (stO P (W * H)) (q + 1) := e
    rw [bt_and, bt_and, bt_not, e2, hL, bt_stO _ _ hn, bt_stO _ _ hn, bt_stO _ _ hn, decide_eq_true hq, decide_eq_true (show q < 64 by omega), Bool.true_and, Bool.true_and, Bool.true_and]
    have hm := Nat.mod_lt q (show 0 < W by omega)
    by_cases z : q % W + 1 < W
    · rw [decide_eq_true z, decide_eq_false (show ¬ q % W = W - 1 by omega), decide_eq_true (nx q hq z)]
      cases P q <;> cases P (q + 1) <;> rfl
    · rw [decide_eq_false z, decide_eq_true (show q % W = W - 1 by omega)]
      cases P q <;> rfl
  have k2 : ∀ q, q < W * H → bt (stO P (W * H) &&& (((stO P (W * H)).toUInt64 >>> ((w).toInt64.toUInt64 &&& Int64.toUInt64 63)).toInt64)) q = (decide (q + W < W * H) && (P q && P (q + W))) := fun q hq => by
    rw [hw, bt_and, bt_ushr (by omega), bt_stO _ _ hn, bt_stO _ _ hn, decide_eq_true hq, Bool.true_and]
    cases P q <;> cases P (q + W) <;> cases decide (q + W < W * H) <;> rfl
  have o1 : ∀ (x y : Int64), bt (stO P (W * H) &&& y) 0 = bt (stO P (W * H) &&& y) 0 := fun _ _ => rfl
  have out : ∀ (y : Int64) (i : Nat), W * H ≤ i → i < 64 → bt (stO P (W * H) &&& y) i = false := fun y i hi _ => by
    rw [bt_and, bt_stO _ _ hn, decide_eq_false (show ¬ i < W * H by omega)]
    rfl
  have out2 : ∀ (y z : Int64) (i : Nat), W * H ≤ i → i < 64 → bt ((stO P (W * H) &&& y) &&& z) i = false := fun y z i hi h64 => by
    rw [bt_and, out y i hi h64]
    rfl
  obtain ⟨d, hd⟩ : ∃ d, W * H + d = 64 := ⟨64 - W * H, by omega⟩
  unfold edC cnt
  rw [← hd, cntB_cut d (by omega) (out2 _ _), cntB_cut d (by omega) (out _)]
  exact cntB_add k1 k2 _ (Nat.le_refl _)
/-- the squares of all sets together -/
def hkP (W n : Nat) (ow : Nat → Int32) : Nat → Nat → Nat
  | 0, _ => 0
  | k + 1, q => hkP W n ow k q + hsP W n (fun z => decide (ow z = cdS k)) q
def smE (c : Prop) [Decidable c] (a b : Int32) : Nat → Nat
  | 0 => 0
  | k + 1 => smE c a b k + (if (decide c && (decide (a = cdS k) && decide (b = cdS k))) = true then 1 else 0)
theorem smE_of {c : Prop} [Decidable c] {a b : Int32} {k0 : Nat} (h0 : k0 < 7) (ha : a = cdS k0) : ∀ k, k ≤ 7 → smE c a b k = if c ∧ a = b ∧ k0 < k then 1 else 0 := by
  intro k
  induction k with
  | zero => intro _; exact (if_neg (fun z => Nat.not_lt_zero _ z.2.2)).symm
  | succ k ih =>
    intro hk
    show smE c a b k + _ = _
    rw [ih (by omega)]
    by_cases hc : c
    · rw [decide_eq_true hc, Bool.true_and]
      by_cases hab : a = b
      · subst hab
        by_cases e : k = k0
        · subst e
          rw [decide_eq_true ha, if_neg (fun z => Nat.lt_irrefl _ z.2.2), if_pos (by decide), if_pos ⟨hc, rfl, by omega⟩]
        · rw [decide_eq_false (show ¬ a = cdS k from fun z => e (cdS_inj (by omega) h0 (z.symm.trans ha)))]
          by_cases l : k0 < k
          · rw [if_pos ⟨hc, rfl, l⟩, if_neg (by decide), if_pos ⟨hc, rfl, by omega⟩]
          · rw [if_neg (fun z => l z.2.2), if_neg (by decide), if_neg (fun z => by have := z.2.2; omega)]
      · rw [if_neg (show ¬ (c ∧ a = b ∧ k0 < k) from fun z => hab z.2.1), if_neg (show ¬ (decide (a = cdS k) && decide (b = cdS k)) = true from fun z => by
          rw [Bool.and_eq_true, decide_eq_true_eq, decide_eq_true_eq] at z
          exact hab (z.1.trans z.2.symm)), if_neg (show ¬ (c ∧ a = b ∧ k0 < k + 1) from fun z => hab z.2.1)]
    · rw [decide_eq_false hc, Bool.false_and, if_neg (fun z => hc z.1), if_neg (by decide), if_neg (fun z => hc z.1)]
theorem hkP_s {W n : Nat} {ow : Nat → Int32} {q : Nat} : ∀ k, hkP W n ow k (q + 1) = hkP W n ow k q + (smE (q % W + 1 < W) (ow q) (ow (q + 1)) k + smE (q + W < n) (ow q) (ow (q + W)) k) := by
  intro k
  induction k with
  | zero => rfl
  | succ k ih =>
    show hkP W n ow k (q + 1) + (hsP W n (fun z => decide (ow z = cdS k)) q + ((if (decide (q % W + 1 < W) && (decide (ow q = cdS k) && decide (ow (q + 1) = cdS k))) = true then 1 else 0) + (if (decide (q + W < n) && (decide (ow q = cdS k) && decide (ow (q + W) = cdS k))) = true then 1 else 0))) = (hkP W n ow k q + hsP W n (fun z => decide (ow z = cdS k)) q) + ((smE (q % W + 1 < W) (ow q) (ow (q + 1)) k + (if (decide (q % W + 1 < W) && (decide (ow q = cdS k) && decide (ow (q + 1) = cdS k))) = true then 1 else 0)) + (smE (q + W < n) (ow q) (ow (q + W)) k + (if (decide (q + W < n) && (decide (ow q = cdS k) && decide (ow (q + W) = cdS k))) = true then 1 else 0)))
    rw [ih]
    omega
theorem hk_ht {W n : Nat} {ow : Nat → Int32} (ho : ∀ q, q < n → ∃ k, k < 7 ∧ ow q = cdS k) : ∀ q, q ≤ n → hdN W n ow q + hkP W n ow 7 q = htN W n q := by
  intro q
  induction q with
  | zero => intro _; rfl
  | succ q ih =>
    intro hq
    have i := ih (by omega)
    obtain ⟨k0, h0, e0⟩ := ho q (by omega)
    show (hdN W n ow q + (_ + _)) + hkP W n ow 7 (q + 1) = htN W n q + (_ + _)
    rw [hkP_s, smE_of h0 e0 7 (by decide), smE_of h0 e0 7 (by decide)]
    have key : ∀ (c : Prop) [Decidable c] (b : Int32), (if c ∧ ¬ ow q = b then 1 else 0) + (if c ∧ ow q = b ∧ k0 < 7 then 1 else 0) = (if c then 1 else 0) := fun c _ b => by
      by_cases hc : c
      · by_cases hb : ow q = b
        · rw [if_neg (fun z => z.2 hb), if_pos ⟨hc, hb, h0⟩, if_pos hc]
        · rw [if_pos ⟨hc, hb⟩, if_neg (fun z => hb z.2.1), if_pos hc]
      · rw [if_neg (fun z => hc z.1), if_neg (fun z => hc z.1), if_neg hc]
    have a1 := key (q % W + 1 < W) (ow (q + 1))
    have a2 := key (q + W < n) (ow (q + W))
    omega
theorem hl_hk {W H : Nat} {S : Nat → Int64} {ow : Nat → Int32} {L : Int64} {w : Int32} (w2 : 2 ≤ W) (w8 : W ≤ 8) (h8 : H ≤ 8) (hL : L = stO (fun i => decide (i % W = W - 1)) (W * H)) (hw : w = Int32.ofNat W) (p : PT S ow (W * H)) : ∀ k, k ≤ 7 → hlN L w S k = hkP W (W * H) ow k (W * H) := by
  intro k
  induction k with
  | zero => intro _; rfl
  | succ k ih =>
    intro hk
    show hlN L w S k + edC L w (S k) = hkP W (W * H) ow k (W * H) + _
    rw [ih (by omega), p.1 k (by omega), ed_hs w2 w8 h8 hL hw]
theorem ht_ck : ((List.range 9).all fun W => (List.range 9).all fun H => Nat.blt W 2 || (Nat.blt H 2 || (Nat.beq (htN W (W * H) (W * H)) (H * (W - 1) + W * (H - 1)) && decide (Int32.ofNat H * (Int32.ofNat W - Int32.ofInt 1) + Int32.ofNat W * (Int32.ofNat H - Int32.ofInt 1) = Int32.ofNat (H * (W - 1) + W * (H - 1)))))) = true := by decide +kernel
theorem ht_fin {W H : Nat} (w2 : 2 ≤ W) (w8 : W ≤ 8) (h2 : 2 ≤ H) (h8 : H ≤ 8) : htN W (W * H) (W * H) = H * (W - 1) + W * (H - 1) ∧ Int32.ofNat H * (Int32.ofNat W - Int32.ofInt 1) + Int32.ofNat W * (Int32.ofNat H - Int32.ofInt 1) = Int32.ofNat (H * (W - 1) + W * (H - 1)) := by
  have k := rg_all (rg_all ht_ck W (by omega)) H (by omega)
  simp only [Bool.or_eq_true, Bool.and_eq_true, decide_eq_true_eq] at k
  rcases k with k | k | k
  · have := Nat.le_of_ble_eq_true k; omega
  · have := Nat.le_of_ble_eq_true k; omega
  · exact ⟨Nat.eq_of_beq_eq_true k.1, k.2⟩
theorem s_hedge11_go {d : Nat} {h : sHp} {c : CF} {W H p : Nat} {S : Nat → Int64} {ow : Nat → Int32} (hd : 2 ≤ d) (F : FC h 5 c) (g : gdF c W H) (hp : h[p]? = some (.inl (1, 7, .inr (.inl S)))) (P : PT S ow (W * H)) : ∀ (f k : Nat) (o4 o5 : Option Value), k + f = 7 → sGo none 47 d 4 [some (.ref 5), some (.ref p), some (.int (Int32.ofNat (hlN (c.2.1 4) (c.1 0) S k))), some (.int (Int32.ofNat k)), o4, o5] [] h (fun r h' => h' = h ∧ r = some (.int (Int32.ofNat (hdN W (W * H) ow (W * H))))) := by
  have gd := g
  obtain ⟨g0, g1, w2, w8, h2, h8, -, -, g4, -⟩ := gd
  have e7 : (Int32.ofNat 7).toInt = ((7 : Nat) : Int) := rfl
  intro f
  induction f with
  | zero =>
    intro k o4 o5 hk
    have k7 : k = 7 := by omega
    subst k7
    have hl := hl_hk w2 w8 h8 g4 g0 P 7 (Nat.le_refl _)
    have hs := hk_ht (W := W) P.2 (W * H) (Nat.le_refl _)
    have hf := ht_fin w2 w8 h2 h8
    have hb := hlN_le (L := c.2.1 4) (w := c.1 0) (S := S) 7
    have hc := hdN_le (W := W) (n := W * H) (ow := ow) (W * H)
    have hn := wh_le8 w8 h8
    have hq := htN_le (W := W) (n := W * H) (W * H)
    rw [hf.1] at hq
    refine g_iload_n (i := 3) rfl rfl ?_
    refine g_aload_n (i := 1) rfl rfl ?_
    refine g_alen rfl hp (by decide) ?_
    refine g_icmp_ge 57 rfl rfl (fun _ => ?_) (fun hc => absurd hc (by exact fun z => z (Int32.le_refl _)))
    refine g_aload_n (i := 0) rfl rfl ?_
    refine g_getfield (v := .int (c.1 1)) rfl F.1 (by decide) rfl ?_
    refine g_aload_n (i := 0) rfl rfl ?_
    refine g_getfield (v := .int (c.1 0)) rfl F.1 (by decide) rfl ?_
    refine g_iconst (n := 1) rfl ?_
    refine g_isub rfl ?_
    refine g_imul rfl ?_
    refine g_aload_n (i := 0) rfl rfl ?_
    refine g_getfield (v := .int (c.1 0)) rfl F.1 (by decide) rfl ?_
    refine g_aload_n (i := 0) rfl rfl ?_
    refine g_getfield (v := .int (c.1 1)) rfl F.1 (by decide) rfl ?_
    refine g_iconst (n := 1) rfl ?_
    refine g_isub rfl ?_
    refine g_imul rfl ?_
    refine g_iadd rfl ?_
    refine g_iload_n (i := 2) rfl rfl ?_
    refine g_isub rfl ?_
    refine g_ireturn (ty := .int) rfl rfl rfl ?_
    refine ⟨rfl, congrArg (fun z => some (Value.int z)) ?_⟩
    show c.1 1 * (c.1 0 - Int32.ofInt 1) + c.1 0 * (c.1 1 - Int32.ofInt 1) - Int32.ofNat (hlN (c.2.1 4) (c.1 0) S 7) = _
    rw [g0] at hl hb ⊢
    rw [g1, hf.2]
    refine Int32.toInt_inj.mp ?_
    rw [i_sub (by rw [ofN_toInt (by omega), ofN_toInt (by omega)]; omega) (by rw [ofN_toInt (by omega), ofN_toInt (by omega)]; omega), ofN_toInt (by omega), ofN_toInt (by omega), ofN_toInt (by omega)]
    omega
  | succ f ih =>
    intro k o4 o5 hk
    have ek := ofN_toInt (n := k) (by omega)
    have hb := hlN_le (L := c.2.1 4) (w := c.1 0) (S := S) k
    have c1 := cnt_le ((S k &&& (c.2.1 4 ^^^ Int64.ofNat 18446744073709551615)) &&& (((S k).toUInt64 >>> ((Int32.ofInt 1).toInt64.toUInt64 &&& Int64.toUInt64 63)).toInt64))
    have c2 := cnt_le (S k &&& (((S k).toUInt64 >>> ((c.1 0).toInt64.toUInt64 &&& Int64.toUInt64 63)).toInt64))
    have ev : Int32.ofNat (hlN (c.2.1 4) (c.1 0) S k) + (Int32.ofNat (cnt ((S k &&& (c.2.1 4 ^^^ Int64.ofNat 18446744073709551615)) &&& (((S k).toUInt64 >>> ((Int32.ofInt 1).toInt64.toUInt64 &&& Int64.toUInt64 63)).toInt64))) + Int32.ofNat (cnt (S k &&& (((S k).toUInt64 >>> ((c.1 0).toInt64.toUInt64 &&& Int64.toUInt64 63)).toInt64)))) = Int32.ofNat (hlN (c.2.1 4) (c.1 0) S (k + 1)) := by
      rw [ofB_plus (by omega), ofB_plus (by omega)]
      rfl
    refine g_iload_n (i := 3) rfl rfl ?_
    refine g_aload_n (i := 1) rfl rfl ?_
    refine g_alen rfl hp (by decide) ?_
    refine g_icmp_ge 57 rfl rfl (fun hc => absurd hc (by rw [i_le, e7, ek]; omega)) (fun _ => ?_)
    refine g_aload_n (i := 1) rfl rfl ?_
    refine g_iload_n (i := 3) rfl rfl ?_
    refine g_laload (n := 7) (f := S) rfl hp (i_in (by omega) (by omega)) ?_
    rw [i_nat ek]
    refine g_lstore (i := 4) (L1 := [some (.ref 5), some (.ref p), some (.int (Int32.ofNat (hlN (c.2.1 4) (c.1 0) S k))), some (.int (Int32.ofNat k)), some (.long (S k)), none]) rfl (Nat.le_of_ble_eq_true rfl) rfl ?_
    refine g_iload_n (i := 2) rfl rfl ?_
    refine g_lload (i := 4) rfl rfl ?_
    refine g_aload_n (i := 0) rfl rfl ?_
    refine g_getfield (v := .long (c.2.1 4)) rfl F.1 (by decide) rfl ?_
    refine g_ldc2_w (j := 18446744073709551615) rfl ?_
    refine g_lxor rfl ?_
    refine g_land rfl ?_
    refine g_lload (i := 4) rfl rfl ?_
    refine g_iconst (n := 1) rfl ?_
    refine g_lushr rfl ?_
    refine g_land rfl ?_
    refine g_static1 (Qc := fun r h' => h' = h ∧ r = some (.int (Int32.ofNat (cnt ((((S k) &&& ((c.2.1 4) ^^^ (Int64.ofNat 18446744073709551615))) &&& (((S k).toUInt64 >>> ((Int32.ofInt 1).toInt64.toUInt64 &&& Int64.toUInt64 63)).toInt64))))))) rfl (by decide) rfl (Nat.le_of_ble_eq_true rfl) (s_bitCount (by omega)) (fun r h hq9 => ?_)
    obtain ⟨rfl, rfl⟩ := hq9
    refine g_lload (i := 4) rfl rfl ?_
    refine g_lload (i := 4) rfl rfl ?_
    refine g_aload_n (i := 0) rfl rfl ?_
    refine g_getfield (v := .int (c.1 0)) rfl F.1 (by decide) rfl ?_
    refine g_lushr rfl ?_
    refine g_land rfl ?_
    refine g_static1 (Qc := fun r h' => h' = h ∧ r = some (.int (Int32.ofNat (cnt (((S k) &&& (((S k).toUInt64 >>> ((c.1 0).toInt64.toUInt64 &&& Int64.toUInt64 63)).toInt64))))))) rfl (by decide) rfl (Nat.le_of_ble_eq_true rfl) (s_bitCount (by omega)) (fun r h hq9 => ?_)
    obtain ⟨rfl, rfl⟩ := hq9
    refine g_iadd rfl ?_
    refine g_iadd rfl ?_
    rw [ev]
    refine g_istore_n (i := 2) (L1 := [some (.ref 5), some (.ref p), some (.int (Int32.ofNat (hlN (c.2.1 4) (c.1 0) S (k + 1)))), some (.int (Int32.ofNat k)), some (.long (S k)), none]) rfl (Nat.le_of_ble_eq_true rfl) rfl ?_
    refine g_iinc (i := 3) (L1 := [some (.ref 5), some (.ref p), some (.int (Int32.ofNat (hlN (c.2.1 4) (c.1 0) S (k + 1)))), some (.int ((Int32.ofNat k) + Int32.ofInt 1)), some (.long (S k)), none]) rfl rfl rfl ?_
    rw [ofN_add (by omega)]
    refine g_goto 4 rfl rfl ?_
    exact ih (k + 1) _ _ (by omega)
theorem s_hedge11 {d : Nat} {h : sHp} {c : CF} {W H p : Nat} {S : Nat → Int64} {ow : Nat → Int32} (hd : 3 ≤ d) (F : FC h 5 c) (g : gdF c W H) (hp : h[p]? = some (.inl (1, 7, .inr (.inl S)))) (P : PT S ow (W * H)) : sDo d 47 [.ref 5, .ref p] h (fun r h' => h' = h ∧ r = some (.int (Int32.ofNat (hdN W (W * H) ow (W * H))))) := by
  refine sDo_of1 (nL := 6) (L := [some (.ref 5), some (.ref p), none, none, none, none]) (by omega) rfl rfl ?_
  refine g_iconst (n := 0) rfl ?_
  refine g_istore_n (i := 2) (L1 := [some (.ref 5), some (.ref p), some (.int (Int32.ofInt 0)), none, none, none]) rfl (Nat.le_of_ble_eq_true rfl) rfl ?_
  refine g_iconst (n := 0) rfl ?_
  refine g_istore_n (i := 3) (L1 := [some (.ref 5), some (.ref p), some (.int (Int32.ofInt 0)), some (.int (Int32.ofInt 0)), none, none]) rfl (Nat.le_of_ble_eq_true rfl) rfl ?_
  exact s_hedge11_go (d := d - 1) (by omega) F g hp P 7 0 _ _ (by decide)
theorem s_hedge12_go {d : Nat} {h : sHp} {m : MF} {W H : Nat} (M : MC h m) (g : gdM m.1 W H) : ∀ (f k : Nat), k + f = W * H → sGo none 220 d 4 [some (.ref 60), some (.int (Int32.ofNat (hdN W (W * H) m.2.2.1 k))), some (.int (Int32.ofNat k))] [] h (fun r h' => h' = h ∧ r = some (.int (Int32.ofNat (hdN W (W * H) m.2.2.1 (W * H))))) := by
  have hr := M.1
  have gd := g
  obtain ⟨gw, gh, w2, w8, h2, h8⟩ := gd
  have hn := gdM_n g
  have hw0 : (m.1 0).toInt = ((W : Nat) : Int) := by rw [gw]; exact ofN_toInt (by omega)
  have hw1 : (m.1 1).toInt = ((H : Nat) : Int) := by rw [gh]; exact ofN_toInt (by omega)
  have hwn : (m.1 0 * m.1 1).toInt = ((W * H : Nat) : Int) := n_mul hw0 hw1 (by omega)
  intro f
  induction f with
  | zero =>
    intro k hk
    have ek := ofN_toInt (n := k) (by omega)
    have eW : W * H = k := by omega
    refine g_iload_n (i := 2) rfl rfl ?_
    refine g_aload_n (i := 0) rfl rfl ?_
    refine g_getfield (v := .int (m.1 0)) rfl hr (by decide) rfl ?_
    refine g_aload_n (i := 0) rfl rfl ?_
    refine g_getfield (v := .int (m.1 1)) rfl hr (by decide) rfl ?_
    refine g_imul rfl ?_
    refine g_icmp_ge 99 rfl rfl (fun _ => ?_) (fun hc => absurd hc (by rw [i_le, hwn, ek]; omega))
    refine g_iload_n (i := 1) rfl rfl ?_
    refine g_ireturn (ty := .int) rfl rfl rfl ?_
    exact ⟨rfl, by rw [eW]⟩
  | succ f ih =>
    intro k hk
    have ek := ofN_toInt (n := k) (by omega)
    have hb := hdN_le (W := W) (n := W * H) (ow := m.2.2.1) k
    have nx : k % W + 1 < W → k + 1 < W * H := fun z => nxt_in W (by omega) H (by omega) k (by omega) (by omega) z
    have hmd := Nat.mod_lt k (show 0 < W by omega)
    refine g_iload_n (i := 2) rfl rfl ?_
    refine g_aload_n (i := 0) rfl rfl ?_
    refine g_getfield (v := .int (m.1 0)) rfl hr (by decide) rfl ?_
    refine g_aload_n (i := 0) rfl rfl ?_
    refine g_getfield (v := .int (m.1 1)) rfl hr (by decide) rfl ?_
    refine g_imul rfl ?_
    refine g_icmp_ge 99 rfl rfl (fun hc => absurd hc (by rw [i_le, hwn, ek]; omega)) (fun _ => ?_)
    refine g_iload_n (i := 2) rfl rfl ?_
    refine g_aload_n (i := 0) rfl rfl ?_
    refine g_getfield (v := .int (m.1 0)) rfl hr (by decide) rfl ?_
    refine g_irem rfl (by intro z; rw [z] at hw0; have e : (0 : Int32).toInt = 0 := rfl; omega) ?_
    have t_1 : (((Int32.ofNat k) - (Int32.ofNat k) / (m.1 0) * (m.1 0))).toInt = ((k % W : Nat) : Int) := n_rem (X := k) (Y := W) ek (show _ = ((W : Nat) : Int) from hw0) (by omega)
    refine g_iconst (n := 1) rfl ?_
    have k_2 : (Int32.ofInt 1).toInt = 1 := rfl
    refine g_iadd rfl ?_
    have t_3 : (((Int32.ofNat k) - (Int32.ofNat k) / (m.1 0) * (m.1 0)) + (Int32.ofInt 1)).toInt = ((k % W + 1 : Nat) : Int) := by rw [i_add (by rw [t_1, k_2]; omega) (by rw [t_1, k_2]; omega), t_1, k_2]; omega
    refine g_aload_n (i := 0) rfl rfl ?_
    refine g_getfield (v := .int (m.1 0)) rfl hr (by decide) rfl ?_
    refine g_icmp_ge 52 rfl rfl (fun c_4 => ?_) (fun c_4 => ?_)
    · skip
      rw [i_le, t_3, hw0] at c_4
      refine g_iload_n (i := 2) rfl rfl ?_
      refine g_aload_n (i := 0) rfl rfl ?_
      refine g_getfield (v := .int (m.1 0)) rfl hr (by decide) rfl ?_
      refine g_iadd rfl ?_
      have t_5 : ((Int32.ofNat k) + (m.1 0)).toInt = ((k + W : Nat) : Int) := by rw [i_add (by rw [ek, hw0]; omega) (by rw [ek, hw0]; omega), ek, hw0]; omega
      refine g_aload_n (i := 0) rfl rfl ?_
      refine g_getfield (v := .int (m.1 0)) rfl hr (by decide) rfl ?_
      refine g_aload_n (i := 0) rfl rfl ?_
      refine g_getfield (v := .int (m.1 1)) rfl hr (by decide) rfl ?_
      refine g_imul rfl ?_
      refine g_icmp_ge 93 rfl rfl (fun c_6 => ?_) (fun c_6 => ?_)
      · skip
        rw [i_le, t_5, hwn] at c_6
        refine g_iinc (i := 2) (L1 := [some (.ref 60), some (.int (Int32.ofNat (hdN W (W * H) m.2.2.1 k))), some (.int ((Int32.ofNat k) + Int32.ofInt 1))]) rfl rfl rfl ?_
        rw [ofN_add (by omega)]
        refine g_goto 4 rfl rfl ?_
        have e : hdN W (W * H) m.2.2.1 (k + 1) = hdN W (W * H) m.2.2.1 k := by
          show hdN W (W * H) m.2.2.1 k + (_ + _) = _
          rw [if_neg (fun z => absurd z.1 (by omega)), if_neg (fun z => absurd z.1 (by omega))] <;> omega
        have key := ih (k + 1) (by omega)
        rw [e] at key
        exact key
      · skip
        rw [i_le, t_5, hwn] at c_6
        refine g_aload_n (i := 0) rfl rfl ?_
        refine g_getfield (v := .ref 63) rfl hr (by decide) rfl ?_
        refine g_iload_n (i := 2) rfl rfl ?_
        refine g_iaload (n := 64) (f := m.2.2.1) rfl M.2.2.1 (i_in (by omega) (by omega)) ?_
        rw [i_nat ek]
        refine g_aload_n (i := 0) rfl rfl ?_
        refine g_getfield (v := .ref 63) rfl hr (by decide) rfl ?_
        refine g_iload_n (i := 2) rfl rfl ?_
        refine g_aload_n (i := 0) rfl rfl ?_
        refine g_getfield (v := .int (m.1 0)) rfl hr (by decide) rfl ?_
        refine g_iadd rfl ?_
        have t_7 : ((Int32.ofNat k) + (m.1 0)).toInt = ((k + W : Nat) : Int) := by rw [i_add (by rw [ek, hw0]; omega) (by rw [ek, hw0]; omega), ek, hw0]; omega
        refine g_iaload (n := 64) (f := m.2.2.1) rfl M.2.2.1 (i_in (by omega) (by omega)) ?_
        rw [i_nat t_7]
        refine g_icmp_eq 93 rfl rfl (fun c_8 => ?_) (fun c_8 => ?_)
        · skip
          refine g_iinc (i := 2) (L1 := [some (.ref 60), some (.int (Int32.ofNat (hdN W (W * H) m.2.2.1 k))), some (.int ((Int32.ofNat k) + Int32.ofInt 1))]) rfl rfl rfl ?_
          rw [ofN_add (by omega)]
          refine g_goto 4 rfl rfl ?_
          have e : hdN W (W * H) m.2.2.1 (k + 1) = hdN W (W * H) m.2.2.1 k := by
            show hdN W (W * H) m.2.2.1 k + (_ + _) = _
            rw [if_neg (fun z => absurd z.1 (by omega)), if_neg (fun z => z.2 c_8)] <;> omega
          have key := ih (k + 1) (by omega)
          rw [e] at key
          exact key
        · skip
          refine g_iinc (i := 1) (L1 := [some (.ref 60), some (.int ((Int32.ofNat (hdN W (W * H) m.2.2.1 k)) + Int32.ofInt 1)), some (.int (Int32.ofNat k))]) rfl rfl rfl ?_
          rw [ofN_add (by omega)]
          refine g_iinc (i := 2) (L1 := [some (.ref 60), some (.int (Int32.ofNat (hdN W (W * H) m.2.2.1 k + 1))), some (.int ((Int32.ofNat k) + Int32.ofInt 1))]) rfl rfl rfl ?_
          rw [ofN_add (by omega)]
          refine g_goto 4 rfl rfl ?_
          have e : hdN W (W * H) m.2.2.1 (k + 1) = hdN W (W * H) m.2.2.1 k + 1 := by
            show hdN W (W * H) m.2.2.1 k + (_ + _) = _
            rw [if_neg (fun z => absurd z.1 (by omega)), if_pos ⟨by omega, c_8⟩] <;> omega
          have key := ih (k + 1) (by omega)
          rw [e] at key
          exact key
    · skip
      rw [i_le, t_3, hw0] at c_4
      have hnx := nx (by omega)
      refine g_aload_n (i := 0) rfl rfl ?_
      refine g_getfield (v := .ref 63) rfl hr (by decide) rfl ?_
      refine g_iload_n (i := 2) rfl rfl ?_
      refine g_iaload (n := 64) (f := m.2.2.1) rfl M.2.2.1 (i_in (by omega) (by omega)) ?_
      rw [i_nat ek]
      refine g_aload_n (i := 0) rfl rfl ?_
      refine g_getfield (v := .ref 63) rfl hr (by decide) rfl ?_
      refine g_iload_n (i := 2) rfl rfl ?_
      refine g_iconst (n := 1) rfl ?_
      refine g_iadd rfl ?_
      have t_9 : ((Int32.ofNat k) + (Int32.ofInt 1)).toInt = ((k + 1 : Nat) : Int) := by rw [i_add (by rw [ek, k_2]; omega) (by rw [ek, k_2]; omega), ek, k_2]; omega
      refine g_iaload (n := 64) (f := m.2.2.1) rfl M.2.2.1 (i_in (by omega) (by omega)) ?_
      rw [i_nat t_9]
      refine g_icmp_eq 52 rfl rfl (fun c_10 => ?_) (fun c_10 => ?_)
      · skip
        refine g_iload_n (i := 2) rfl rfl ?_
        refine g_aload_n (i := 0) rfl rfl ?_
        refine g_getfield (v := .int (m.1 0)) rfl hr (by decide) rfl ?_
        refine g_iadd rfl ?_
        have t_11 : ((Int32.ofNat k) + (m.1 0)).toInt = ((k + W : Nat) : Int) := by rw [i_add (by rw [ek, hw0]; omega) (by rw [ek, hw0]; omega), ek, hw0]; omega
        refine g_aload_n (i := 0) rfl rfl ?_
        refine g_getfield (v := .int (m.1 0)) rfl hr (by decide) rfl ?_
        refine g_aload_n (i := 0) rfl rfl ?_
        refine g_getfield (v := .int (m.1 1)) rfl hr (by decide) rfl ?_
        refine g_imul rfl ?_
        refine g_icmp_ge 93 rfl rfl (fun c_12 => ?_) (fun c_12 => ?_)
        · skip
          rw [i_le, t_11, hwn] at c_12
          refine g_iinc (i := 2) (L1 := [some (.ref 60), some (.int (Int32.ofNat (hdN W (W * H) m.2.2.1 k))), some (.int ((Int32.ofNat k) + Int32.ofInt 1))]) rfl rfl rfl ?_
          rw [ofN_add (by omega)]
          refine g_goto 4 rfl rfl ?_
          have e : hdN W (W * H) m.2.2.1 (k + 1) = hdN W (W * H) m.2.2.1 k := by
            show hdN W (W * H) m.2.2.1 k + (_ + _) = _
            rw [if_neg (fun z => z.2 c_10), if_neg (fun z => absurd z.1 (by omega))] <;> omega
          have key := ih (k + 1) (by omega)
          rw [e] at key
          exact key
        · skip
          rw [i_le, t_11, hwn] at c_12
          refine g_aload_n (i := 0) rfl rfl ?_
          refine g_getfield (v := .ref 63) rfl hr (by decide) rfl ?_
          refine g_iload_n (i := 2) rfl rfl ?_
          refine g_iaload (n := 64) (f := m.2.2.1) rfl M.2.2.1 (i_in (by omega) (by omega)) ?_
          rw [i_nat ek]
          refine g_aload_n (i := 0) rfl rfl ?_
          refine g_getfield (v := .ref 63) rfl hr (by decide) rfl ?_
          refine g_iload_n (i := 2) rfl rfl ?_
          refine g_aload_n (i := 0) rfl rfl ?_
          refine g_getfield (v := .int (m.1 0)) rfl hr (by decide) rfl ?_
          refine g_iadd rfl ?_
          have t_13 : ((Int32.ofNat k) + (m.1 0)).toInt = ((k + W : Nat) : Int) := by rw [i_add (by rw [ek, hw0]; omega) (by rw [ek, hw0]; omega), ek, hw0]; omega
          refine g_iaload (n := 64) (f := m.2.2.1) rfl M.2.2.1 (i_in (by omega) (by omega)) ?_
          rw [i_nat t_13]
          refine g_icmp_eq 93 rfl rfl (fun c_14 => ?_) (fun c_14 => ?_)
          · skip
            refine g_iinc (i := 2) (L1 := [some (.ref 60), some (.int (Int32.ofNat (hdN W (W * H) m.2.2.1 k))), some (.int ((Int32.ofNat k) + Int32.ofInt 1))]) rfl rfl rfl ?_
            rw [ofN_add (by omega)]
            refine g_goto 4 rfl rfl ?_
            have e : hdN W (W * H) m.2.2.1 (k + 1) = hdN W (W * H) m.2.2.1 k := by
              show hdN W (W * H) m.2.2.1 k + (_ + _) = _
              rw [if_neg (fun z => z.2 c_10), if_neg (fun z => z.2 c_14)] <;> omega
            have key := ih (k + 1) (by omega)
            rw [e] at key
            exact key
          · skip
            refine g_iinc (i := 1) (L1 := [some (.ref 60), some (.int ((Int32.ofNat (hdN W (W * H) m.2.2.1 k)) + Int32.ofInt 1)), some (.int (Int32.ofNat k))]) rfl rfl rfl ?_
            rw [ofN_add (by omega)]
            refine g_iinc (i := 2) (L1 := [some (.ref 60), some (.int (Int32.ofNat (hdN W (W * H) m.2.2.1 k + 1))), some (.int ((Int32.ofNat k) + Int32.ofInt 1))]) rfl rfl rfl ?_
            rw [ofN_add (by omega)]
            refine g_goto 4 rfl rfl ?_
            have e : hdN W (W * H) m.2.2.1 (k + 1) = hdN W (W * H) m.2.2.1 k + 1 := by
              show hdN W (W * H) m.2.2.1 k + (_ + _) = _
              rw [if_neg (fun z => z.2 c_10), if_pos ⟨by omega, c_14⟩] <;> omega
            have key := ih (k + 1) (by omega)
            rw [e] at key
            exact key
      · skip
        refine g_iinc (i := 1) (L1 := [some (.ref 60), some (.int ((Int32.ofNat (hdN W (W * H) m.2.2.1 k)) + Int32.ofInt 1)), some (.int (Int32.ofNat k))]) rfl rfl rfl ?_
        rw [ofN_add (by omega)]
        refine g_iload_n (i := 2) rfl rfl ?_
        refine g_aload_n (i := 0) rfl rfl ?_
        refine g_getfield (v := .int (m.1 0)) rfl hr (by decide) rfl ?_
        refine g_iadd rfl ?_
        have t_15 : ((Int32.ofNat k) + (m.1 0)).toInt = ((k + W : Nat) : Int) := by rw [i_add (by rw [ek, hw0]; omega) (by rw [ek, hw0]; omega), ek, hw0]; omega
        refine g_aload_n (i := 0) rfl rfl ?_
        refine g_getfield (v := .int (m.1 0)) rfl hr (by decide) rfl ?_
        refine g_aload_n (i := 0) rfl rfl ?_
        refine g_getfield (v := .int (m.1 1)) rfl hr (by decide) rfl ?_
        refine g_imul rfl ?_
        refine g_icmp_ge 93 rfl rfl (fun c_16 => ?_) (fun c_16 => ?_)
        · skip
          rw [i_le, t_15, hwn] at c_16
          refine g_iinc (i := 2) (L1 := [some (.ref 60), some (.int (Int32.ofNat (hdN W (W * H) m.2.2.1 k + 1))), some (.int ((Int32.ofNat k) + Int32.ofInt 1))]) rfl rfl rfl ?_
          rw [ofN_add (by omega)]
          refine g_goto 4 rfl rfl ?_
          have e : hdN W (W * H) m.2.2.1 (k + 1) = hdN W (W * H) m.2.2.1 k + 1 := by
            show hdN W (W * H) m.2.2.1 k + (_ + _) = _
            rw [if_pos ⟨by omega, c_10⟩, if_neg (fun z => absurd z.1 (by omega))] <;> omega
          have key := ih (k + 1) (by omega)
          rw [e] at key
          exact key
        · skip
          rw [i_le, t_15, hwn] at c_16
          refine g_aload_n (i := 0) rfl rfl ?_
          refine g_getfield (v := .ref 63) rfl hr (by decide) rfl ?_
          refine g_iload_n (i := 2) rfl rfl ?_
          refine g_iaload (n := 64) (f := m.2.2.1) rfl M.2.2.1 (i_in (by omega) (by omega)) ?_
          rw [i_nat ek]
          refine g_aload_n (i := 0) rfl rfl ?_
          refine g_getfield (v := .ref 63) rfl hr (by decide) rfl ?_
          refine g_iload_n (i := 2) rfl rfl ?_
          refine g_aload_n (i := 0) rfl rfl ?_
          refine g_getfield (v := .int (m.1 0)) rfl hr (by decide) rfl ?_
          refine g_iadd rfl ?_
          have t_17 : ((Int32.ofNat k) + (m.1 0)).toInt = ((k + W : Nat) : Int) := by rw [i_add (by rw [ek, hw0]; omega) (by rw [ek, hw0]; omega), ek, hw0]; omega
          refine g_iaload (n := 64) (f := m.2.2.1) rfl M.2.2.1 (i_in (by omega) (by omega)) ?_
          rw [i_nat t_17]
          refine g_icmp_eq 93 rfl rfl (fun c_18 => ?_) (fun c_18 => ?_)
          · skip
            refine g_iinc (i := 2) (L1 := [some (.ref 60), some (.int (Int32.ofNat (hdN W (W * H) m.2.2.1 k + 1))), some (.int ((Int32.ofNat k) + Int32.ofInt 1))]) rfl rfl rfl ?_
            rw [ofN_add (by omega)]
            refine g_goto 4 rfl rfl ?_
            have e : hdN W (W * H) m.2.2.1 (k + 1) = hdN W (W * H) m.2.2.1 k + 1 := by
              show hdN W (W * H) m.2.2.1 k + (_ + _) = _
              rw [if_pos ⟨by omega, c_10⟩, if_neg (fun z => z.2 c_18)] <;> omega
            have key := ih (k + 1) (by omega)
            rw [e] at key
            exact key
          · skip
            refine g_iinc (i := 1) (L1 := [some (.ref 60), some (.int ((Int32.ofNat (hdN W (W * H) m.2.2.1 k + 1)) + Int32.ofInt 1)), some (.int (Int32.ofNat k))]) rfl rfl rfl ?_
            rw [ofN_add (by omega)]
            refine g_iinc (i := 2) (L1 := [some (.ref 60), some (.int (Int32.ofNat (hdN W (W * H) m.2.2.1 k + 1 + 1))), some (.int ((Int32.ofNat k) + Int32.ofInt 1))]) rfl rfl rfl ?_
            rw [ofN_add (by omega)]
            refine g_goto 4 rfl rfl ?_
            have e : hdN W (W * H) m.2.2.1 (k + 1) = hdN W (W * H) m.2.2.1 k + 1 + 1 := by
              show hdN W (W * H) m.2.2.1 k + (_ + _) = _
              rw [if_pos ⟨by omega, c_10⟩, if_pos ⟨by omega, c_18⟩] <;> omega
            have key := ih (k + 1) (by omega)
            rw [e] at key
            exact key
theorem s_hedge12 {d : Nat} {h : sHp} {m : MF} {W H : Nat} (hd : 1 ≤ d) (M : MC h m) (g : gdM m.1 W H) : sDo d 220 [.ref 60] h (fun r h' => h' = h ∧ r = some (.int (Int32.ofNat (hdN W (W * H) m.2.2.1 (W * H))))) := by
  refine sDo_of1 (nL := 3) (L := [some (.ref 60), none, none]) (by omega) rfl rfl ?_
  refine g_iconst (n := 0) rfl ?_
  refine g_istore_n (i := 1) (L1 := [some (.ref 60), some (.int (Int32.ofInt 0)), none]) rfl (Nat.le_of_ble_eq_true rfl) rfl ?_
  refine g_iconst (n := 0) rfl ?_
  refine g_istore_n (i := 2) (L1 := [some (.ref 60), some (.int (Int32.ofInt 0)), some (.int (Int32.ofInt 0))]) rfl (Nat.le_of_ble_eq_true rfl) rfl ?_
  exact s_hedge12_go (d := d - 1) M g (W * H) 0 (Nat.zero_add _)
end
section
/-! ===== the piece of an owner ===== -/
theorem s_piece12_go {d : Nat} {h : sHp} {m : MF} {W H : Nat} {v : Int32} (M : MC h m) (g : gdM m.1 W H) : ∀ (f k : Nat), k + f = W * H → sGo none 213 d 5 [some (.ref 60), some (.int v), some (.long (stO (fun q => decide (m.2.2.1 q = v)) k)), none, some (.int (Int32.ofNat k))] [] h (fun r h' => h' = h ∧ r = some (.long (stO (fun q => decide (m.2.2.1 q = v)) (W * H)))) := by
  have hr := M.1
  have gd := g
  obtain ⟨gw, gh, w2, w8, h2, h8⟩ := gd
  have hn := gdM_n g
  have hw0 : (m.1 0).toInt = ((W : Nat) : Int) := by rw [gw]; exact ofN_toInt (by omega)
  have hw1 : (m.1 1).toInt = ((H : Nat) : Int) := by rw [gh]; exact ofN_toInt (by omega)
  have hwn : (m.1 0 * m.1 1).toInt = ((W * H : Nat) : Int) := n_mul hw0 hw1 (by omega)
  intro f
  induction f with
  | zero =>
    intro k hk
    have ek := ofN_toInt (n := k) (by omega)
    have eW : W * H = k := by omega
    refine g_iload (i := 4) rfl rfl ?_
    refine g_aload_n (i := 0) rfl rfl ?_
    refine g_getfield (v := .int (m.1 0)) rfl hr (by decide) rfl ?_
    refine g_aload_n (i := 0) rfl rfl ?_
    refine g_getfield (v := .int (m.1 1)) rfl hr (by decide) rfl ?_
    refine g_imul rfl ?_
    refine g_icmp_ge 43 rfl rfl (fun _ => ?_) (fun hc => absurd hc (by rw [i_le, hwn, ek]; omega))
    refine g_lload_n (i := 2) rfl rfl ?_
    refine g_lreturn rfl rfl ?_
    exact ⟨rfl, by rw [eW]⟩
  | succ f ih =>
    intro k hk
    have ek := ofN_toInt (n := k) (by omega)
    refine g_iload (i := 4) rfl rfl ?_
    refine g_aload_n (i := 0) rfl rfl ?_
    refine g_getfield (v := .int (m.1 0)) rfl hr (by decide) rfl ?_
    refine g_aload_n (i := 0) rfl rfl ?_
    refine g_getfield (v := .int (m.1 1)) rfl hr (by decide) rfl ?_
    refine g_imul rfl ?_
    refine g_icmp_ge 43 rfl rfl (fun hc => absurd hc (by rw [i_le, hwn, ek]; omega)) (fun _ => ?_)
    refine g_aload_n (i := 0) rfl rfl ?_
    refine g_getfield (v := .ref 63) rfl hr (by decide) rfl ?_
    refine g_iload (i := 4) rfl rfl ?_
    refine g_iaload (n := 64) (f := m.2.2.1) rfl M.2.2.1 (i_in (by omega) (by omega)) ?_
    rw [i_nat ek]
    refine g_iload_n (i := 1) rfl rfl ?_
    refine g_icmp_ne 37 rfl rfl (fun c_1 => ?_) (fun c_1 => ?_)
    · skip
      refine g_iinc (i := 4) (L1 := [some (.ref 60), some (.int v), some (.long (stO (fun q => decide (m.2.2.1 q = v)) k)), none, some (.int ((Int32.ofNat k) + Int32.ofInt 1))]) rfl rfl rfl ?_
      rw [ofN_add (by omega)]
      refine g_goto 5 rfl rfl ?_
      have key := ih (k + 1) (by omega)
      rw [show stO (fun q => decide (m.2.2.1 q = v)) (k + 1) = (stO (fun q => decide (m.2.2.1 q = v)) k) from if_neg (fun z => c_1 (of_decide_eq_true z))] at key
      exact key
    · skip
      refine g_lload_n (i := 2) rfl rfl ?_
      refine g_lconst (n := 1) rfl ?_
      show sGo none 213 _ 32 [some (.ref 60), some (.int v), some (.long (stO (fun q => decide (m.2.2.1 q = v)) k)), none, some (.int (Int32.ofNat k))] [.long (Int64.ofNat 1), .long (stO (fun q => decide (m.2.2.1 q = v)) k)] _ _
      refine g_iload (i := 4) rfl rfl ?_
      refine g_lshl rfl ?_
      refine g_lor rfl ?_
      refine g_lstore_n (i := 2) (L1 := [some (.ref 60), some (.int v), some (.long ((stO (fun q => decide (m.2.2.1 q = v)) k) ||| ((Int64.ofNat 1) <<< ((Int32.ofNat k).toInt64 &&& 63)))), none, some (.int (Int32.ofNat k))]) rfl (Nat.le_of_ble_eq_true rfl) rfl ?_
      refine g_iinc (i := 4) (L1 := [some (.ref 60), some (.int v), some (.long ((stO (fun q => decide (m.2.2.1 q = v)) k) ||| ((Int64.ofNat 1) <<< ((Int32.ofNat k).toInt64 &&& 63)))), none, some (.int ((Int32.ofNat k) + Int32.ofInt 1))]) rfl rfl rfl ?_
      rw [ofN_add (by omega)]
      refine g_goto 5 rfl rfl ?_
      have key := ih (k + 1) (by omega)
      rw [show stO (fun q => decide (m.2.2.1 q = v)) (k + 1) = ((stO (fun q => decide (m.2.2.1 q = v)) k) ||| ((Int64.ofNat 1) <<< ((Int32.ofNat k).toInt64 &&& 63))) from if_pos (decide_eq_true c_1)] at key
      exact key
theorem s_piece12 {d : Nat} {h : sHp} {m : MF} {W H : Nat} {v : Int32} (hd : 1 ≤ d) (M : MC h m) (g : gdM m.1 W H) : sDo d 213 [.ref 60, .int v] h (fun r h' => h' = h ∧ r = some (.long (stO (fun q => decide (m.2.2.1 q = v)) (W * H)))) := by
  refine sDo_of1 (nL := 5) (L := [some (.ref 60), some (.int v), none, none, none]) (by omega) rfl rfl ?_
  refine g_lconst (n := 0) rfl ?_
  show sGo none 213 _ 1 [some (.ref 60), some (.int v), none, none, none] [.long (Int64.ofNat 0)] _ _
  refine g_lstore_n (i := 2) (L1 := [some (.ref 60), some (.int v), some (.long (Int64.ofNat 0)), none, none]) rfl (Nat.le_of_ble_eq_true rfl) rfl ?_
  refine g_iconst (n := 0) rfl ?_
  refine g_istore (i := 4) (L1 := [some (.ref 60), some (.int v), some (.long (Int64.ofNat 0)), none, some (.int (Int32.ofInt 0))]) rfl (Nat.le_of_ble_eq_true rfl) rfl ?_
  exact s_piece12_go (d := d - 1) M g (W * H) 0 (Nat.zero_add _)
/-! ===== the road ===== -/
def rdB (W H : Nat) (r : Int) (q : Nat) : Bool := if r = 0 then decide (q < W) else if r = 1 then decide (q % W = W - 1) else if r = 2 then decide (W * (H - 1) ≤ q) else decide (q % W = 0)
def rdS (W H : Nat) (r : Int) : Int64 := stO (rdB W H r) (W * H)
theorem s_road11 {d : Nat} {h : sHp} {c : CF} {W H : Nat} (hd : 1 ≤ d) (F : FC h 5 c) (g : gdF c W H) (hr : 0 ≤ (c.1 7).toInt ∧ (c.1 7).toInt ≤ 3) : sDo d 52 [.ref 5] h (fun r h' => h' = h ∧ r = some (.long (rdS W H (c.1 7).toInt))) := by
  obtain ⟨g0, g1, w2, w8, h2, h8, -, g3, g4, g5, g6⟩ := g
  refine sDo_of1 (nL := 1) (L := [some (.ref 5)]) (by omega) rfl rfl ?_
  refine g_aload_n (i := 0) rfl rfl ?_
  refine g_getfield (v := .int (c.1 7)) rfl F.1 (by decide) rfl ?_
  rcases (show (c.1 7).toInt = 0 ∨ (c.1 7).toInt = 1 ∨ (c.1 7).toInt = 2 ∨ (c.1 7).toInt = 3 by omega) with hv | hv | hv | hv
  · skip
    refine g_tsIn 0 32 rfl (by omega) (by rw [hv]; rfl) rfl rfl ?_
    refine g_aload_n (i := 0) rfl rfl ?_
    refine g_getfield (v := .long (c.2.1 5)) rfl F.1 (by decide) rfl ?_
    refine g_lreturn rfl rfl ?_
    exact ⟨rfl, by rw [hv]; exact congrArg (fun z => some (Value.long z)) g5⟩
  · skip
    refine g_tsIn 1 37 rfl (by omega) (by rw [hv]; rfl) rfl rfl ?_
    refine g_aload_n (i := 0) rfl rfl ?_
    refine g_getfield (v := .long (c.2.1 4)) rfl F.1 (by decide) rfl ?_
    refine g_lreturn rfl rfl ?_
    exact ⟨rfl, by rw [hv]; exact congrArg (fun z => some (Value.long z)) g4⟩
  · skip
    refine g_tsIn 2 42 rfl (by omega) (by rw [hv]; rfl) rfl rfl ?_
    refine g_aload_n (i := 0) rfl rfl ?_
    refine g_getfield (v := .long (c.2.1 6)) rfl F.1 (by decide) rfl ?_
    refine g_lreturn rfl rfl ?_
    exact ⟨rfl, by rw [hv]; exact congrArg (fun z => some (Value.long z)) g6⟩
  · skip
    refine g_tsOut 47 rfl (by omega) rfl ?_
    refine g_aload_n (i := 0) rfl rfl ?_
    refine g_getfield (v := .long (c.2.1 3)) rfl F.1 (by decide) rfl ?_
    refine g_lreturn rfl rfl ?_
    exact ⟨rfl, by rw [hv]; exact congrArg (fun z => some (Value.long z)) g3⟩
theorem s_road12_go {d : Nat} {h : sHp} {m : MF} {W H : Nat} (M : MC h m) (g : gdM m.1 W H) : ∀ (f k : Nat) (o4 : Option Value), k + f = W * H → sGo none 226 d 4 [some (.ref 60), some (.long (stO (rdB W H (m.1 2).toInt) k)), none, some (.int (Int32.ofNat k)), o4] [] h (fun r h' => h' = h ∧ r = some (.long (rdS W H (m.1 2).toInt))) := by
  have hr := M.1
  have gd := g
  obtain ⟨gw, gh, w2, w8, h2, h8⟩ := gd
  have hn := gdM_n g
  have hw0 : (m.1 0).toInt = ((W : Nat) : Int) := by rw [gw]; exact ofN_toInt (by omega)
  have hw1 : (m.1 1).toInt = ((H : Nat) : Int) := by rw [gh]; exact ofN_toInt (by omega)
  have hwn : (m.1 0 * m.1 1).toInt = ((W * H : Nat) : Int) := n_mul hw0 hw1 (by omega)
  have hWH : W * (H - 1) + W = W * H := by
    have e := Nat.mul_succ W (H - 1)
    rw [show (H - 1).succ = H by omega] at e
    exact e.symm
  intro f
  induction f with
  | zero =>
    intro k o4 hk
    have ek := ofN_toInt (n := k) (by omega)
    have eW : W * H = k := by omega
    refine g_iload_n (i := 3) rfl rfl ?_
    refine g_aload_n (i := 0) rfl rfl ?_
    refine g_getfield (v := .int (m.1 0)) rfl hr (by decide) rfl ?_
    refine g_aload_n (i := 0) rfl rfl ?_
    refine g_getfield (v := .int (m.1 1)) rfl hr (by decide) rfl ?_
    refine g_imul rfl ?_
    refine g_icmp_ge 138 rfl rfl (fun _ => ?_) (fun hc => absurd hc (by rw [i_le, hwn, ek]; omega))
    refine g_lload_n (i := 1) rfl rfl ?_
    refine g_lreturn rfl rfl ?_
    exact ⟨rfl, by unfold rdS; rw [eW]⟩
  | succ f ih =>
    intro k o4 hk
    have ek := ofN_toInt (n := k) (by omega)
    have hmd := Nat.mod_lt k (show 0 < W by omega)
    refine g_iload_n (i := 3) rfl rfl ?_
    refine g_aload_n (i := 0) rfl rfl ?_
    refine g_getfield (v := .int (m.1 0)) rfl hr (by decide) rfl ?_
    refine g_aload_n (i := 0) rfl rfl ?_
    refine g_getfield (v := .int (m.1 1)) rfl hr (by decide) rfl ?_
    refine g_imul rfl ?_
    refine g_icmp_ge 138 rfl rfl (fun hc => absurd hc (by rw [i_le, hwn, ek]; omega)) (fun _ => ?_)
    refine g_aload_n (i := 0) rfl rfl ?_
    refine g_getfield (v := .int (m.1 2)) rfl hr (by decide) rfl ?_
    have k_2 : (0 : Int32).toInt = 0 := rfl
    refine g_if_ne 40 rfl rfl (fun c_1 => ?_) (fun c_1 => ?_)
    · skip
      rw [i_eq, k_2] at c_1
      refine g_aload_n (i := 0) rfl rfl ?_
      refine g_getfield (v := .int (m.1 2)) rfl hr (by decide) rfl ?_
      refine g_iconst (n := 1) rfl ?_
      have k_4 : (Int32.ofInt 1).toInt = 1 := rfl
      refine g_icmp_ne 71 rfl rfl (fun c_3 => ?_) (fun c_3 => ?_)
      · skip
        rw [i_eq, k_4] at c_3
        refine g_aload_n (i := 0) rfl rfl ?_
        refine g_getfield (v := .int (m.1 2)) rfl hr (by decide) rfl ?_
        refine g_iconst (n := 2) rfl ?_
        have k_6 : (Int32.ofInt 2).toInt = 2 := rfl
        refine g_icmp_ne 105 rfl rfl (fun c_5 => ?_) (fun c_5 => ?_)
        · skip
          rw [i_eq, k_6] at c_5
          refine g_iload_n (i := 3) rfl rfl ?_
          refine g_aload_n (i := 0) rfl rfl ?_
          refine g_getfield (v := .int (m.1 0)) rfl hr (by decide) rfl ?_
          refine g_irem rfl (by intro z; rw [z] at hw0; have e : (0 : Int32).toInt = 0 := rfl; omega) ?_
          have t_7 : (((Int32.ofNat k) - (Int32.ofNat k) / (m.1 0) * (m.1 0))).toInt = ((k % W : Nat) : Int) := n_rem (X := k) (Y := W) ek (show _ = ((W : Nat) : Int) from hw0) (by omega)
          refine g_if_ne 118 rfl rfl (fun c_8 => ?_) (fun c_8 => ?_)
          · skip
            rw [i_eq, t_7, k_2] at c_8
            refine g_iconst (n := 0) rfl ?_
            refine g_istore (i := 4) (L1 := [some (.ref 60), some (.long (stO (rdB W H (m.1 2).toInt) k)), none, some (.int (Int32.ofNat k)), some (.int (Int32.ofInt 0))]) rfl (Nat.le_of_ble_eq_true rfl) rfl ?_
            refine g_iload (i := 4) rfl rfl ?_
            refine g_if_eq 132 rfl rfl (fun _ => ?_) (fun hc => absurd hc (by decide))
            refine g_iinc (i := 3) (L1 := [some (.ref 60), some (.long (stO (rdB W H (m.1 2).toInt) k)), none, some (.int ((Int32.ofNat k) + Int32.ofInt 1)), some (.int (Int32.ofInt 0))]) rfl rfl rfl ?_
            rw [ofN_add (by omega)]
            refine g_goto 4 rfl rfl ?_
            have e : rdB W H (m.1 2).toInt k = false := by
              unfold rdB
              (repeat' split) <;> first | exact decide_eq_false (by omega) | (exfalso; omega)
            have key := ih (k + 1) (some (.int (Int32.ofInt 0))) (by omega)
            rw [show stO (rdB W H (m.1 2).toInt) (k + 1) = (stO (rdB W H (m.1 2).toInt) k) from if_neg (fun z => by rw [e] at z; cases z)] at key
            exact key
          · skip
            rw [i_eq, t_7, k_2] at c_8
            refine g_iconst (n := 1) rfl ?_
            refine g_goto 119 rfl rfl ?_
            refine g_istore (i := 4) (L1 := [some (.ref 60), some (.long (stO (rdB W H (m.1 2).toInt) k)), none, some (.int (Int32.ofNat k)), some (.int (Int32.ofInt 1))]) rfl (Nat.le_of_ble_eq_true rfl) rfl ?_
            refine g_iload (i := 4) rfl rfl ?_
            refine g_if_eq 132 rfl rfl (fun hc => absurd hc (by decide)) (fun _ => ?_)
            refine g_lload_n (i := 1) rfl rfl ?_
            refine g_lconst (n := 1) rfl ?_
            show sGo none 226 _ 128 [some (.ref 60), some (.long (stO (rdB W H (m.1 2).toInt) k)), none, some (.int (Int32.ofNat k)), some (.int (Int32.ofInt 1))] [.long (Int64.ofNat 1), .long (stO (rdB W H (m.1 2).toInt) k)] _ _
            refine g_iload_n (i := 3) rfl rfl ?_
            refine g_lshl rfl ?_
            refine g_lor rfl ?_
            refine g_lstore_n (i := 1) (L1 := [some (.ref 60), some (.long ((stO (rdB W H (m.1 2).toInt) k) ||| ((Int64.ofNat 1) <<< ((Int32.ofNat k).toInt64 &&& 63)))), none, some (.int (Int32.ofNat k)), some (.int (Int32.ofInt 1))]) rfl (Nat.le_of_ble_eq_true rfl) rfl ?_
            refine g_iinc (i := 3) (L1 := [some (.ref 60), some (.long ((stO (rdB W H (m.1 2).toInt) k) ||| ((Int64.ofNat 1) <<< ((Int32.ofNat k).toInt64 &&& 63)))), none, some (.int ((Int32.ofNat k) + Int32.ofInt 1)), some (.int (Int32.ofInt 1))]) rfl rfl rfl ?_
            rw [ofN_add (by omega)]
            refine g_goto 4 rfl rfl ?_
            have e : rdB W H (m.1 2).toInt k = true := by
              unfold rdB
              (repeat' split) <;> first | exact decide_eq_true (by omega) | (exfalso; omega)
            have key := ih (k + 1) (some (.int (Int32.ofInt 1))) (by omega)
            rw [show stO (rdB W H (m.1 2).toInt) (k + 1) = ((stO (rdB W H (m.1 2).toInt) k) ||| ((Int64.ofNat 1) <<< ((Int32.ofNat k).toInt64 &&& 63))) from if_pos e] at key
            exact key
        · skip
          rw [i_eq, k_6] at c_5
          refine g_iload_n (i := 3) rfl rfl ?_
          refine g_aload_n (i := 0) rfl rfl ?_
          refine g_getfield (v := .int (m.1 0)) rfl hr (by decide) rfl ?_
          refine g_aload_n (i := 0) rfl rfl ?_
          refine g_getfield (v := .int (m.1 1)) rfl hr (by decide) rfl ?_
          refine g_imul rfl ?_
          refine g_aload_n (i := 0) rfl rfl ?_
          refine g_getfield (v := .int (m.1 0)) rfl hr (by decide) rfl ?_
          refine g_isub rfl ?_
          have t_9 : (((m.1 0) * (m.1 1)) - (m.1 0)).toInt = ((W * H : Nat) : Int) - ((W : Nat) : Int) := by rw [i_sub (by rw [hwn, hw0]; omega) (by rw [hwn, hw0]; omega), hwn, hw0]
          refine g_icmp_lt 101 rfl rfl (fun c_10 => ?_) (fun c_10 => ?_)
          · skip
            rw [i_lt, ek, t_9] at c_10
            refine g_iconst (n := 0) rfl ?_
            refine g_goto 119 rfl rfl ?_
            refine g_istore (i := 4) (L1 := [some (.ref 60), some (.long (stO (rdB W H (m.1 2).toInt) k)), none, some (.int (Int32.ofNat k)), some (.int (Int32.ofInt 0))]) rfl (Nat.le_of_ble_eq_true rfl) rfl ?_
            refine g_iload (i := 4) rfl rfl ?_
            refine g_if_eq 132 rfl rfl (fun _ => ?_) (fun hc => absurd hc (by decide))
            refine g_iinc (i := 3) (L1 := [some (.ref 60), some (.long (stO (rdB W H (m.1 2).toInt) k)), none, some (.int ((Int32.ofNat k) + Int32.ofInt 1)), some (.int (Int32.ofInt 0))]) rfl rfl rfl ?_
            rw [ofN_add (by omega)]
            refine g_goto 4 rfl rfl ?_
            have e : rdB W H (m.1 2).toInt k = false := by
              unfold rdB
              (repeat' split) <;> first | exact decide_eq_false (by omega) | (exfalso; omega)
            have key := ih (k + 1) (some (.int (Int32.ofInt 0))) (by omega)
            rw [show stO (rdB W H (m.1 2).toInt) (k + 1) = (stO (rdB W H (m.1 2).toInt) k) from if_neg (fun z => by rw [e] at z; cases z)] at key
            exact key
          · skip
            rw [i_lt, ek, t_9] at c_10
            refine g_iconst (n := 1) rfl ?_
            refine g_goto 119 rfl rfl ?_
            refine g_istore (i := 4) (L1 := [some (.ref 60), some (.long (stO (rdB W H (m.1 2).toInt) k)), none, some (.int (Int32.ofNat k)), some (.int (Int32.ofInt 1))]) rfl (Nat.le_of_ble_eq_true rfl) rfl ?_
            refine g_iload (i := 4) rfl rfl ?_
            refine g_if_eq 132 rfl rfl (fun hc => absurd hc (by decide)) (fun _ => ?_)
            refine g_lload_n (i := 1) rfl rfl ?_
            refine g_lconst (n := 1) rfl ?_
            show sGo none 226 _ 128 [some (.ref 60), some (.long (stO (rdB W H (m.1 2).toInt) k)), none, some (.int (Int32.ofNat k)), some (.int (Int32.ofInt 1))] [.long (Int64.ofNat 1), .long (stO (rdB W H (m.1 2).toInt) k)] _ _
            refine g_iload_n (i := 3) rfl rfl ?_
            refine g_lshl rfl ?_
            refine g_lor rfl ?_
            refine g_lstore_n (i := 1) (L1 := [some (.ref 60), some (.long ((stO (rdB W H (m.1 2).toInt) k) ||| ((Int64.ofNat 1) <<< ((Int32.ofNat k).toInt64 &&& 63)))), none, some (.int (Int32.ofNat k)), some (.int (Int32.ofInt 1))]) rfl (Nat.le_of_ble_eq_true rfl) rfl ?_
            refine g_iinc (i := 3) (L1 := [some (.ref 60), some (.long ((stO (rdB W H (m.1 2).toInt) k) ||| ((Int64.ofNat 1) <<< ((Int32.ofNat k).toInt64 &&& 63)))), none, some (.int ((Int32.ofNat k) + Int32.ofInt 1)), some (.int (Int32.ofInt 1))]) rfl rfl rfl ?_
            rw [ofN_add (by omega)]
            refine g_goto 4 rfl rfl ?_
            have e : rdB W H (m.1 2).toInt k = true := by
              unfold rdB
              (repeat' split) <;> first | exact decide_eq_true (by omega) | (exfalso; omega)
            have key := ih (k + 1) (some (.int (Int32.ofInt 1))) (by omega)
            rw [show stO (rdB W H (m.1 2).toInt) (k + 1) = ((stO (rdB W H (m.1 2).toInt) k) ||| ((Int64.ofNat 1) <<< ((Int32.ofNat k).toInt64 &&& 63))) from if_pos e] at key
            exact key
      · skip
        rw [i_eq, k_4] at c_3
        refine g_iload_n (i := 3) rfl rfl ?_
        refine g_aload_n (i := 0) rfl rfl ?_
        refine g_getfield (v := .int (m.1 0)) rfl hr (by decide) rfl ?_
        refine g_irem rfl (by intro z; rw [z] at hw0; have e : (0 : Int32).toInt = 0 := rfl; omega) ?_
        have t_11 : (((Int32.ofNat k) - (Int32.ofNat k) / (m.1 0) * (m.1 0))).toInt = ((k % W : Nat) : Int) := n_rem (X := k) (Y := W) ek (show _ = ((W : Nat) : Int) from hw0) (by omega)
        refine g_aload_n (i := 0) rfl rfl ?_
        refine g_getfield (v := .int (m.1 0)) rfl hr (by decide) rfl ?_
        refine g_iconst (n := 1) rfl ?_
        refine g_isub rfl ?_
        have t_12 : ((m.1 0) - (Int32.ofInt 1)).toInt = ((W : Nat) : Int) - 1 := by rw [i_sub (by rw [hw0, k_4]; omega) (by rw [hw0, k_4]; omega), hw0, k_4]
        refine g_icmp_ne 67 rfl rfl (fun c_13 => ?_) (fun c_13 => ?_)
        · skip
          rw [i_eq, t_11, t_12] at c_13
          refine g_iconst (n := 0) rfl ?_
          refine g_goto 119 rfl rfl ?_
          refine g_istore (i := 4) (L1 := [some (.ref 60), some (.long (stO (rdB W H (m.1 2).toInt) k)), none, some (.int (Int32.ofNat k)), some (.int (Int32.ofInt 0))]) rfl (Nat.le_of_ble_eq_true rfl) rfl ?_
          refine g_iload (i := 4) rfl rfl ?_
          refine g_if_eq 132 rfl rfl (fun _ => ?_) (fun hc => absurd hc (by decide))
          refine g_iinc (i := 3) (L1 := [some (.ref 60), some (.long (stO (rdB W H (m.1 2).toInt) k)), none, some (.int ((Int32.ofNat k) + Int32.ofInt 1)), some (.int (Int32.ofInt 0))]) rfl rfl rfl ?_
          rw [ofN_add (by omega)]
          refine g_goto 4 rfl rfl ?_
          have e : rdB W H (m.1 2).toInt k = false := by
            unfold rdB
            (repeat' split) <;> first | exact decide_eq_false (by omega) | (exfalso; omega)
          have key := ih (k + 1) (some (.int (Int32.ofInt 0))) (by omega)
          rw [show stO (rdB W H (m.1 2).toInt) (k + 1) = (stO (rdB W H (m.1 2).toInt) k) from if_neg (fun z => by rw [e] at z; cases z)] at key
          exact key
        · skip
          rw [i_eq, t_11, t_12] at c_13
          refine g_iconst (n := 1) rfl ?_
          refine g_goto 119 rfl rfl ?_
          refine g_istore (i := 4) (L1 := [some (.ref 60), some (.long (stO (rdB W H (m.1 2).toInt) k)), none, some (.int (Int32.ofNat k)), some (.int (Int32.ofInt 1))]) rfl (Nat.le_of_ble_eq_true rfl) rfl ?_
          refine g_iload (i := 4) rfl rfl ?_
          refine g_if_eq 132 rfl rfl (fun hc => absurd hc (by decide)) (fun _ => ?_)
          refine g_lload_n (i := 1) rfl rfl ?_
          refine g_lconst (n := 1) rfl ?_
          show sGo none 226 _ 128 [some (.ref 60), some (.long (stO (rdB W H (m.1 2).toInt) k)), none, some (.int (Int32.ofNat k)), some (.int (Int32.ofInt 1))] [.long (Int64.ofNat 1), .long (stO (rdB W H (m.1 2).toInt) k)] _ _
          refine g_iload_n (i := 3) rfl rfl ?_
          refine g_lshl rfl ?_
          refine g_lor rfl ?_
          refine g_lstore_n (i := 1) (L1 := [some (.ref 60), some (.long ((stO (rdB W H (m.1 2).toInt) k) ||| ((Int64.ofNat 1) <<< ((Int32.ofNat k).toInt64 &&& 63)))), none, some (.int (Int32.ofNat k)), some (.int (Int32.ofInt 1))]) rfl (Nat.le_of_ble_eq_true rfl) rfl ?_
          refine g_iinc (i := 3) (L1 := [some (.ref 60), some (.long ((stO (rdB W H (m.1 2).toInt) k) ||| ((Int64.ofNat 1) <<< ((Int32.ofNat k).toInt64 &&& 63)))), none, some (.int ((Int32.ofNat k) + Int32.ofInt 1)), some (.int (Int32.ofInt 1))]) rfl rfl rfl ?_
          rw [ofN_add (by omega)]
          refine g_goto 4 rfl rfl ?_
          have e : rdB W H (m.1 2).toInt k = true := by
            unfold rdB
            (repeat' split) <;> first | exact decide_eq_true (by omega) | (exfalso; omega)
          have key := ih (k + 1) (some (.int (Int32.ofInt 1))) (by omega)
          rw [show stO (rdB W H (m.1 2).toInt) (k + 1) = ((stO (rdB W H (m.1 2).toInt) k) ||| ((Int64.ofNat 1) <<< ((Int32.ofNat k).toInt64 &&& 63))) from if_pos e] at key
          exact key
    · skip
      rw [i_eq, k_2] at c_1
      refine g_iload_n (i := 3) rfl rfl ?_
      refine g_aload_n (i := 0) rfl rfl ?_
      refine g_getfield (v := .int (m.1 0)) rfl hr (by decide) rfl ?_
      refine g_icmp_ge 36 rfl rfl (fun c_14 => ?_) (fun c_14 => ?_)
      · skip
        rw [i_le, ek, hw0] at c_14
        refine g_iconst (n := 0) rfl ?_
        refine g_goto 119 rfl rfl ?_
        refine g_istore (i := 4) (L1 := [some (.ref 60), some (.long (stO (rdB W H (m.1 2).toInt) k)), none, some (.int (Int32.ofNat k)), some (.int (Int32.ofInt 0))]) rfl (Nat.le_of_ble_eq_true rfl) rfl ?_
        refine g_iload (i := 4) rfl rfl ?_
        refine g_if_eq 132 rfl rfl (fun _ => ?_) (fun hc => absurd hc (by decide))
        refine g_iinc (i := 3) (L1 := [some (.ref 60), some (.long (stO (rdB W H (m.1 2).toInt) k)), none, some (.int ((Int32.ofNat k) + Int32.ofInt 1)), some (.int (Int32.ofInt 0))]) rfl rfl rfl ?_
        rw [ofN_add (by omega)]
        refine g_goto 4 rfl rfl ?_
        have e : rdB W H (m.1 2).toInt k = false := by
          unfold rdB
          (repeat' split) <;> first | exact decide_eq_false (by omega) | (exfalso; omega)
        have key := ih (k + 1) (some (.int (Int32.ofInt 0))) (by omega)
        rw [show stO (rdB W H (m.1 2).toInt) (k + 1) = (stO (rdB W H (m.1 2).toInt) k) from if_neg (fun z => by rw [e] at z; cases z)] at key
        exact key
      · skip
        rw [i_le, ek, hw0] at c_14
        refine g_iconst (n := 1) rfl ?_
        refine g_goto 119 rfl rfl ?_
        refine g_istore (i := 4) (L1 := [some (.ref 60), some (.long (stO (rdB W H (m.1 2).toInt) k)), none, some (.int (Int32.ofNat k)), some (.int (Int32.ofInt 1))]) rfl (Nat.le_of_ble_eq_true rfl) rfl ?_
        refine g_iload (i := 4) rfl rfl ?_
        refine g_if_eq 132 rfl rfl (fun hc => absurd hc (by decide)) (fun _ => ?_)
        refine g_lload_n (i := 1) rfl rfl ?_
        refine g_lconst (n := 1) rfl ?_
        show sGo none 226 _ 128 [some (.ref 60), some (.long (stO (rdB W H (m.1 2).toInt) k)), none, some (.int (Int32.ofNat k)), some (.int (Int32.ofInt 1))] [.long (Int64.ofNat 1), .long (stO (rdB W H (m.1 2).toInt) k)] _ _
        refine g_iload_n (i := 3) rfl rfl ?_
        refine g_lshl rfl ?_
        refine g_lor rfl ?_
        refine g_lstore_n (i := 1) (L1 := [some (.ref 60), some (.long ((stO (rdB W H (m.1 2).toInt) k) ||| ((Int64.ofNat 1) <<< ((Int32.ofNat k).toInt64 &&& 63)))), none, some (.int (Int32.ofNat k)), some (.int (Int32.ofInt 1))]) rfl (Nat.le_of_ble_eq_true rfl) rfl ?_
        refine g_iinc (i := 3) (L1 := [some (.ref 60), some (.long ((stO (rdB W H (m.1 2).toInt) k) ||| ((Int64.ofNat 1) <<< ((Int32.ofNat k).toInt64 &&& 63)))), none, some (.int ((Int32.ofNat k) + Int32.ofInt 1)), some (.int (Int32.ofInt 1))]) rfl rfl rfl ?_
        rw [ofN_add (by omega)]
        refine g_goto 4 rfl rfl ?_
        have e : rdB W H (m.1 2).toInt k = true := by
          unfold rdB
          (repeat' split) <;> first | exact decide_eq_true (by omega) | (exfalso; omega)
        have key := ih (k + 1) (some (.int (Int32.ofInt 1))) (by omega)
        rw [show stO (rdB W H (m.1 2).toInt) (k + 1) = ((stO (rdB W H (m.1 2).toInt) k) ||| ((Int64.ofNat 1) <<< ((Int32.ofNat k).toInt64 &&& 63))) from if_pos e] at key
        exact key
theorem s_road12 {d : Nat} {h : sHp} {m : MF} {W H : Nat} (hd : 1 ≤ d) (M : MC h m) (g : gdM m.1 W H) : sDo d 226 [.ref 60] h (fun r h' => h' = h ∧ r = some (.long (rdS W H (m.1 2).toInt))) := by
  refine sDo_of1 (nL := 5) (L := [some (.ref 60), none, none, none, none]) (by omega) rfl rfl ?_
  refine g_lconst (n := 0) rfl ?_
  show sGo none 226 _ 1 [some (.ref 60), none, none, none, none] [.long (Int64.ofNat 0)] _ _
  refine g_lstore_n (i := 1) (L1 := [some (.ref 60), some (.long (Int64.ofNat 0)), none, none, none]) rfl (Nat.le_of_ble_eq_true rfl) rfl ?_
  refine g_iconst (n := 0) rfl ?_
  refine g_istore_n (i := 3) (L1 := [some (.ref 60), some (.long (Int64.ofNat 0)), none, some (.int (Int32.ofInt 0)), none]) rfl (Nat.le_of_ble_eq_true rfl) rfl ?_
  exact s_road12_go (d := d - 1) M g (W * H) 0 _ (Nat.zero_add _)
theorem gr_inN {W n : Nat} {x y : Int64} (hx : inN x n) (hy : sb y x) : inN (grF W n x y) n := fun i hi z => by
  rw [← gr_64] at z
  exact hx i hi (gr_in 64 y hy i hi z)
theorem s_reach11 {d : Nat} {h : sHp} {c : CF} {W H : Nat} {x : Int64} (hd : 3 ≤ d) (F : FC h 5 c) (g : gdF c W H) (hr : 0 ≤ (c.1 7).toInt ∧ (c.1 7).toInt ≤ 3) (hx : inN x (W * H)) : sDo d 51 [.ref 5, .long x] h (fun r h' => h' = h ∧ r = some (.long (rdS W H (c.1 7).toInt ||| (grF W (W * H) x ((x &&& rdS W H (c.1 7).toInt) &&& x) ||| besS W (W * H) (grF W (W * H) x ((x &&& rdS W H (c.1 7).toInt) &&& x)))))) := by
  have hg : inN (grF W (W * H) x ((x &&& rdS W H (c.1 7).toInt) &&& x)) (W * H) := gr_inN hx sb_and
  refine sDo_of1 (nL := 5) (L := [some (.ref 5), some (.long x), none, none, none]) (by omega) rfl rfl ?_
  refine g_aload_n (i := 0) rfl rfl ?_
  refine g_virt0 (Qc := fun r h' => h' = h ∧ r = some (.long (rdS W H (c.1 7).toInt))) rfl (by decide) rfl F.1 rfl (Nat.le_of_ble_eq_true rfl) (s_road11 (by omega) F g hr) (fun r h hq9 => ?_)
  obtain ⟨rfl, rfl⟩ := hq9
  refine g_lstore_n (i := 3) (L1 := [some (.ref 5), some (.long x), none, some (.long (rdS W H (c.1 7).toInt)), none]) rfl (Nat.le_of_ble_eq_true rfl) rfl ?_
  refine g_lload_n (i := 3) rfl rfl ?_
  refine g_aload_n (i := 0) rfl rfl ?_
  refine g_aload_n (i := 0) rfl rfl ?_
  refine g_lload_n (i := 1) rfl rfl ?_
  refine g_lload_n (i := 3) rfl rfl ?_
  refine g_land rfl ?_
  refine g_lload_n (i := 1) rfl rfl ?_
  refine g_virt2 (Qc := fun r h' => h' = h ∧ r = some (.long (grF W (W * H) x ((x &&& rdS W H (c.1 7).toInt) &&& x)))) rfl (by decide) rfl F.1 rfl (Nat.le_of_ble_eq_true rfl) (s_grown11 (by omega) F g hx) (fun r h hq9 => ?_)
  obtain ⟨rfl, rfl⟩ := hq9
  refine g_virt1 (Qc := fun r h' => h' = h ∧ r = some (.long (grF W (W * H) x ((x &&& rdS W H (c.1 7).toInt) &&& x) ||| besS W (W * H) (grF W (W * H) x ((x &&& rdS W H (c.1 7).toInt) &&& x))))) rfl (by decide) rfl F.1 rfl (Nat.le_of_ble_eq_true rfl) (s_withBeside (by omega) F g hg) (fun r h hq9 => ?_)
  obtain ⟨rfl, rfl⟩ := hq9
  refine g_lor rfl ?_
  refine g_lreturn rfl rfl ?_
  exact ⟨rfl, rfl⟩
/-! ===== the well ===== -/
theorem s_well11n {d : Nat} {h : sHp} {c : CF} {W H : Nat} {x : Int64} (hd : 2 ≤ d) (F : FC h 5 c) (g : gdF c W H) (hk : c.1 8 = -1) : sDo d 53 [.ref 5, .long x] h (fun r h' => h' = h ∧ r = some (.int 0)) := by
  have e8 : (c.1 8).toInt = -1 := by rw [hk]; rfl
  refine sDo_of1 (nL := 3) (L := [some (.ref 5), some (.long x), none]) (by omega) rfl rfl ?_
  refine g_aload_n (i := 0) rfl rfl ?_
  refine g_aload_n (i := 0) rfl rfl ?_
  refine g_getfield (v := .int (c.1 8)) rfl F.1 (by decide) rfl ?_
  refine g_virt1 (Qc := fun r h' => h' = h ∧ (((0 ≤ (c.1 8).toInt ∧ (c.1 8).toInt < ((W * H : Nat) : Int)) ∧ r = some (.int 1)) ∨ (¬ (0 ≤ (c.1 8).toInt ∧ (c.1 8).toInt < ((W * H : Nat) : Int)) ∧ r = some (.int 0)))) rfl (by decide) rfl F.1 rfl (Nat.le_of_ble_eq_true rfl) (s_isSq11 (by omega) F g) (fun r h hq9 => ?_)
  obtain ⟨rfl, ⟨c_1, rfl⟩ | ⟨c_1, rfl⟩⟩ := hq9
  · skip
    omega
  · skip
    refine g_if_eq 30 rfl rfl (fun _ => ?_) (fun hc => absurd hc (by decide))
    refine g_iconst (n := 0) rfl ?_
    refine g_ireturn (ty := .boolean) rfl rfl (by decide) ?_
    exact ⟨rfl, rfl⟩
theorem s_well11 {d : Nat} {h : sHp} {c : CF} {W H k : Nat} {x : Int64} (hd : 3 ≤ d) (F : FC h 5 c) (g : gdF c W H) (hk : c.1 8 = Int32.ofNat k) (hkn : k < W * H) : sDo d 53 [.ref 5, .long x] h (fun r h' => h' = h ∧ (x &&& (Int64.ofNat 1 <<< ((Int32.ofNat k).toInt64 &&& 63)) = Int64.ofNat 0 ∧ r = some (.int 1) ∨ ¬ x &&& (Int64.ofNat 1 <<< ((Int32.ofNat k).toInt64 &&& 63)) = Int64.ofNat 0 ∧ r = some (.int 0))) := by
  have hn := gdF_n g
  have e8 : (c.1 8).toInt = k := by rw [hk]; exact ofN_toInt (by omega)
  refine sDo_of1 (nL := 3) (L := [some (.ref 5), some (.long x), none]) (by omega) rfl rfl ?_
  refine g_aload_n (i := 0) rfl rfl ?_
  refine g_aload_n (i := 0) rfl rfl ?_
  refine g_getfield (v := .int (c.1 8)) rfl F.1 (by decide) rfl ?_
  refine g_virt1 (Qc := fun r h' => h' = h ∧ (((0 ≤ (c.1 8).toInt ∧ (c.1 8).toInt < ((W * H : Nat) : Int)) ∧ r = some (.int 1)) ∨ (¬ (0 ≤ (c.1 8).toInt ∧ (c.1 8).toInt < ((W * H : Nat) : Int)) ∧ r = some (.int 0)))) rfl (by decide) rfl F.1 rfl (Nat.le_of_ble_eq_true rfl) (s_isSq11 (by omega) F g) (fun r h hq9 => ?_)
  obtain ⟨rfl, ⟨c_1, rfl⟩ | ⟨c_1, rfl⟩⟩ := hq9
  · skip
    refine g_if_eq 30 rfl rfl (fun hc => absurd hc (by decide)) (fun _ => ?_)
    refine g_lload_n (i := 1) rfl rfl ?_
    refine g_aload_n (i := 0) rfl rfl ?_
    refine g_aload_n (i := 0) rfl rfl ?_
    refine g_getfield (v := .int (c.1 8)) rfl F.1 (by decide) rfl ?_
    rw [hk]
    refine g_virt1 (Qc := fun r h' => h' = h ∧ r = some (.long (Int64.ofNat 1 <<< ((Int32.ofNat k).toInt64 &&& 63)))) rfl (by decide) rfl F.1 rfl (Nat.le_of_ble_eq_true rfl) (s_only8 (by omega) F g hkn) (fun r h hq9 => ?_)
    obtain ⟨rfl, rfl⟩ := hq9
    refine g_land rfl ?_
    refine g_lconst (n := 0) rfl ?_
    show sGo none 53 _ 22 [some (.ref 5), some (.long x), none] [.long (Int64.ofNat 0), .long (x &&& (Int64.ofNat 1 <<< ((Int32.ofNat k).toInt64 &&& 63)))] _ _
    refine g_lcmp rfl ?_
    refine g_if_ne 30 rfl rfl (fun c_2 => ?_) (fun c_2 => ?_)
    · skip
      rw [lc_eq] at c_2
      refine g_iconst (n := 0) rfl ?_
      refine g_ireturn (ty := .boolean) rfl rfl (by decide) ?_
      exact ⟨rfl, Or.inr ⟨c_2, rfl⟩⟩
    · skip
      rw [lc_eq] at c_2
      refine g_iconst (n := 1) rfl ?_
      refine g_goto 31 rfl rfl ?_
      refine g_ireturn (ty := .boolean) rfl rfl (by decide) ?_
      exact ⟨rfl, Or.inl ⟨c_2, rfl⟩⟩
  · skip
    omega
/-! ===== shares ===== -/
def shN (m : MF) (i : Nat) : Nat := (m.2.2.2.1 i).toInt.toNat
def ssN (m : MF) : Nat → Nat
  | 0 => 0
  | k + 1 => ssN m k + shN m k
theorem RB_sh {c : CF} {m : MF} {s : Sg} (RS : RSs s c m) {i : Nat} (hi : i < s.2.2) : 1 ≤ shN m i ∧ shN m i ≤ 9 ∧ m.2.2.2.1 i = Int32.ofNat (shN m i) ∧ c.2.2.2.1 i = Int32.ofNat (shN m i) := by
  obtain ⟨n, h1, h9, e⟩ := (RS.2.2.2.2 i hi).1
  have k := (RS.2.2.1 i hi).1
  have e2 : shN m i = n := by
    unfold shN
    rw [e, ofN_toInt (by omega)]
    omega
  rw [e2, k, e]
  exact ⟨h1, h9, rfl, rfl⟩
theorem ssN_le {m : MF} : ∀ k, (∀ i, i < k → shN m i ≤ 9) → ssN m k ≤ 9 * k := by
  intro k
  induction k with
  | zero => intro _; exact Nat.le_refl _
  | succ k ih =>
    intro hs
    have := ih (fun i hi => hs i (by omega))
    have := hs k (by omega)
    show ssN m k + shN m k ≤ _
    omega
theorem s_shares11_go {d : Nat} {h : sHp} {c : CF} {m : MF} {s : Sg} (F : FC h 5 c) (r : RB c m) (sI : sgI c s) : ∀ (f k : Nat), k + f = s.2.2 → sGo none 38 d 4 [some (.ref 5), some (.int (Int32.ofNat (ssN m k))), some (.int (Int32.ofNat k))] [] h (fun r h' => h' = h ∧ r = some (.int (Int32.ofNat (ssN m s.2.2)))) := by
  have RS := (r.2 s sI).1
  have n5 := sI.2.2.2.2.2.2.2
  have e11 : (c.1 11).toInt = ((s.2.2 : Nat) : Int) := by rw [sI.2.2.1]; exact ofN_toInt (by omega)
  intro f
  induction f with
  | zero =>
    intro k hk
    have ek := ofN_toInt (n := k) (by omega)
    have eN : s.2.2 = k := by omega
    refine g_iload_n (i := 2) rfl rfl ?_
    refine g_aload_n (i := 0) rfl rfl ?_
    refine g_getfield (v := .int (c.1 11)) rfl F.1 (by decide) rfl ?_
    refine g_icmp_ge 32 rfl rfl (fun _ => ?_) (fun hc => absurd hc (by rw [i_le, e11, ek]; omega))
    refine g_iload_n (i := 1) rfl rfl ?_
    refine g_ireturn (ty := .int) rfl rfl rfl ?_
    exact ⟨rfl, by rw [eN]⟩
  | succ f ih =>
    intro k hk
    have ek := ofN_toInt (n := k) (by omega)
    have hk5 : k < s.2.2 := by omega
    have hle := ssN_le (m := m) k (fun i hi => (RB_sh RS (by omega)).2.1)
    have hsh := RB_sh RS hk5
    have ev : Int32.ofNat (ssN m k) + Int32.ofNat (shN m k) = Int32.ofNat (ssN m (k + 1)) := ofB_plus (by omega)
    refine g_iload_n (i := 2) rfl rfl ?_
    refine g_aload_n (i := 0) rfl rfl ?_
    refine g_getfield (v := .int (c.1 11)) rfl F.1 (by decide) rfl ?_
    refine g_icmp_ge 32 rfl rfl (fun hc => absurd hc (by rw [i_le, e11, ek]; omega)) (fun _ => ?_)
    refine g_iload_n (i := 2) rfl rfl ?_
    refine g_iconst (n := 5) rfl ?_
    refine g_icmp_ge 32 rfl rfl (fun hc => absurd hc (by rw [i_le, ek, show (Int32.ofInt 5).toInt = 5 from rfl]; omega)) (fun _ => ?_)
    refine g_iload_n (i := 1) rfl rfl ?_
    refine g_aload_n (i := 0) rfl rfl ?_
    refine g_getfield (v := .ref (5 + 2)) rfl F.1 (by decide) rfl ?_
    refine g_iload_n (i := 2) rfl rfl ?_
    refine g_iaload (n := 5) (f := c.2.2.2.1) rfl F.2.2.1 (i_in (by omega) (by omega)) ?_
    rw [i_nat ek, hsh.2.2.2]
    refine g_iadd rfl ?_
    rw [ev]
    refine g_istore_n (i := 1) (L1 := [some (.ref 5), some (.int (Int32.ofNat (ssN m (k + 1)))), some (.int (Int32.ofNat k))]) rfl (Nat.le_of_ble_eq_true rfl) rfl ?_
    refine g_iinc (i := 2) (L1 := [some (.ref 5), some (.int (Int32.ofNat (ssN m (k + 1)))), some (.int ((Int32.ofNat k) + Int32.ofInt 1))]) rfl rfl rfl ?_
    rw [ofN_add (by omega)]
    refine g_goto 4 rfl rfl ?_
    exact ih (k + 1) (by omega)
theorem s_shares11 {d : Nat} {h : sHp} {c : CF} {m : MF} {s : Sg} (hd : 1 ≤ d) (F : FC h 5 c) (r : RB c m) (sI : sgI c s) : sDo d 38 [.ref 5] h (fun r h' => h' = h ∧ r = some (.int (Int32.ofNat (ssN m s.2.2)))) := by
  refine sDo_of1 (nL := 3) (L := [some (.ref 5), none, none]) (by omega) rfl rfl ?_
  refine g_iconst (n := 0) rfl ?_
  refine g_istore_n (i := 1) (L1 := [some (.ref 5), some (.int (Int32.ofInt 0)), none]) rfl (Nat.le_of_ble_eq_true rfl) rfl ?_
  refine g_iconst (n := 0) rfl ?_
  refine g_istore_n (i := 2) (L1 := [some (.ref 5), some (.int (Int32.ofInt 0)), some (.int (Int32.ofInt 0))]) rfl (Nat.le_of_ble_eq_true rfl) rfl ?_
  exact s_shares11_go (d := d - 1) F r sI s.2.2 0 (Nat.zero_add _)
theorem s_shares12_go {d : Nat} {h : sHp} {c : CF} {m : MF} {s : Sg} (M : MC h m) (r : RB c m) (sI : sgI c s) (sJ : sgJ m.1 s) : ∀ (f k : Nat), k + f = s.2.2 → sGo none 228 d 4 [some (.ref 60), some (.int (Int32.ofNat (ssN m k))), some (.int (Int32.ofNat k))] [] h (fun r h' => h' = h ∧ r = some (.int (Int32.ofNat (ssN m s.2.2)))) := by
  have RS := (r.2 s sI).1
  have n5 := sI.2.2.2.2.2.2.2
  have e11 : (m.1 6).toInt = ((s.2.2 : Nat) : Int) := by rw [sJ.2.2.1]; exact ofN_toInt (by omega)
  intro f
  induction f with
  | zero =>
    intro k hk
    have ek := ofN_toInt (n := k) (by omega)
    have eN : s.2.2 = k := by omega
    refine g_iload_n (i := 2) rfl rfl ?_
    refine g_aload_n (i := 0) rfl rfl ?_
    refine g_getfield (v := .int (m.1 6)) rfl M.1 (by decide) rfl ?_
    refine g_icmp_ge 27 rfl rfl (fun _ => ?_) (fun hc => absurd hc (by rw [i_le, e11, ek]; omega))
    refine g_iload_n (i := 1) rfl rfl ?_
    refine g_ireturn (ty := .int) rfl rfl rfl ?_
    exact ⟨rfl, by rw [eN]⟩
  | succ f ih =>
    intro k hk
    have ek := ofN_toInt (n := k) (by omega)
    have hk5 : k < s.2.2 := by omega
    have hle := ssN_le (m := m) k (fun i hi => (RB_sh RS (by omega)).2.1)
    have hsh := RB_sh RS hk5
    have ev : Int32.ofNat (ssN m k) + Int32.ofNat (shN m k) = Int32.ofNat (ssN m (k + 1)) := ofB_plus (by omega)
    refine g_iload_n (i := 2) rfl rfl ?_
    refine g_aload_n (i := 0) rfl rfl ?_
    refine g_getfield (v := .int (m.1 6)) rfl M.1 (by decide) rfl ?_
    refine g_icmp_ge 27 rfl rfl (fun hc => absurd hc (by rw [i_le, e11, ek]; omega)) (fun _ => ?_)
    refine g_iload_n (i := 1) rfl rfl ?_
    refine g_aload_n (i := 0) rfl rfl ?_
    refine g_getfield (v := .ref 64) rfl M.1 (by decide) rfl ?_
    refine g_iload_n (i := 2) rfl rfl ?_
    refine g_iaload (n := 5) (f := m.2.2.2.1) rfl M.2.2.2.1 (i_in (by omega) (by omega)) ?_
    rw [i_nat ek, hsh.2.2.1]
    refine g_iadd rfl ?_
    rw [ev]
    refine g_istore_n (i := 1) (L1 := [some (.ref 60), some (.int (Int32.ofNat (ssN m (k + 1)))), some (.int (Int32.ofNat k))]) rfl (Nat.le_of_ble_eq_true rfl) rfl ?_
    refine g_iinc (i := 2) (L1 := [some (.ref 60), some (.int (Int32.ofNat (ssN m (k + 1)))), some (.int ((Int32.ofNat k) + Int32.ofInt 1))]) rfl rfl rfl ?_
    rw [ofN_add (by omega)]
    refine g_goto 4 rfl rfl ?_
    exact ih (k + 1) (by omega)
theorem s_shares12 {d : Nat} {h : sHp} {c : CF} {m : MF} {s : Sg} (hd : 1 ≤ d) (M : MC h m) (r : RB c m) (sI : sgI c s) (sJ : sgJ m.1 s) : sDo d 228 [.ref 60] h (fun r h' => h' = h ∧ r = some (.int (Int32.ofNat (ssN m s.2.2)))) := by
  refine sDo_of1 (nL := 3) (L := [some (.ref 60), none, none]) (by omega) rfl rfl ?_
  refine g_iconst (n := 0) rfl ?_
  refine g_istore_n (i := 1) (L1 := [some (.ref 60), some (.int (Int32.ofInt 0)), none]) rfl (Nat.le_of_ble_eq_true rfl) rfl ?_
  refine g_iconst (n := 0) rfl ?_
  refine g_istore_n (i := 2) (L1 := [some (.ref 60), some (.int (Int32.ofInt 0)), some (.int (Int32.ofInt 0))]) rfl (Nat.le_of_ble_eq_true rfl) rfl ?_
  exact s_shares12_go (d := d - 1) M r sI sJ s.2.2 0 (Nat.zero_add _)
theorem s_surplus11 {d : Nat} {h : sHp} {c : CF} {m : MF} {s : Sg} {i : Nat} {x : Int64} (hd : 5 ≤ d) (F : FC h 5 c) (g : gdF c s.1 s.2.1) (r : RB c m) (sI : sgI c s) (hi : i < s.2.2) : sDo d 39 [.ref 5, .int (Int32.ofNat i), .long x] h (fun r h' => h' = h ∧ ∃ v : Int32, v.toInt = ((wV m (s.1 * s.2.1) i x * ssN m s.2.2 : Nat) : Int) - ((shN m i * wV m (s.1 * s.2.1) i (stO (fun _ => true) (s.1 * s.2.1)) : Nat) : Int) ∧ r = some (.int v)) := by
  have RS := (r.2 s sI).1
  have n5 := sI.2.2.2.2.2.2.2
  have hn := gdF_n g
  have ei := ofN_toInt (n := i) (by omega)
  have a1 := wV_le (x := x) hn.1 RS hi
  have a2 := wV_le (x := stO (fun _ => true) (s.1 * s.2.1)) hn.1 RS hi
  have a3 := ssN_le (m := m) s.2.2 (fun i hi => (RB_sh RS hi).2.1)
  have a4 := RB_sh RS hi
  have p1 : wV m (s.1 * s.2.1) i x * ssN m s.2.2 ≤ 6356 * 45 := Nat.mul_le_mul a1 (by omega)
  have p2 : shN m i * wV m (s.1 * s.2.1) i (stO (fun _ => true) (s.1 * s.2.1)) ≤ 9 * 6356 := Nat.mul_le_mul a4.2.1 a2
  have m1 : (Int32.ofNat (wV m (s.1 * s.2.1) i x) * Int32.ofNat (ssN m s.2.2)).toInt = ((wV m (s.1 * s.2.1) i x * ssN m s.2.2 : Nat) : Int) := n_mul (ofC_toInt (by omega)) (ofC_toInt (by omega)) (by omega)
  have m2 : (Int32.ofNat (shN m i) * Int32.ofNat (wV m (s.1 * s.2.1) i (stO (fun _ => true) (s.1 * s.2.1)))).toInt = ((shN m i * wV m (s.1 * s.2.1) i (stO (fun _ => true) (s.1 * s.2.1)) : Nat) : Int) := n_mul (ofC_toInt (by omega)) (ofC_toInt (by omega)) (by omega)
  have g2 : c.2.1 2 = stO (fun _ => true) (s.1 * s.2.1) := g.2.2.2.2.2.2.1
  refine sDo_of1 (nL := 4) (L := [some (.ref 5), some (.int (Int32.ofNat i)), some (.long x), none]) (by omega) rfl rfl ?_
  refine g_aload_n (i := 0) rfl rfl ?_
  refine g_iload_n (i := 1) rfl rfl ?_
  refine g_virt1 (Qc := fun r h' => h' = h ∧ (((0 ≤ (Int32.ofNat i).toInt ∧ (Int32.ofNat i).toInt < (s.2.2 : Int)) ∧ r = some (.int 1)) ∨ (¬ (0 ≤ (Int32.ofNat i).toInt ∧ (Int32.ofNat i).toInt < (s.2.2 : Int)) ∧ r = some (.int 0)))) rfl (by decide) rfl F.1 rfl (Nat.le_of_ble_eq_true rfl) (s_hr11 (by omega) F sI.2.2.1 n5) (fun r h hq9 => ?_)
  obtain ⟨rfl, ⟨c_1, rfl⟩ | ⟨c_1, rfl⟩⟩ := hq9
  · skip
    refine g_if_ne 10 rfl rfl (fun _ => ?_) (fun hc => absurd hc (by decide))
    refine g_aload_n (i := 0) rfl rfl ?_
    refine g_iload_n (i := 1) rfl rfl ?_
    refine g_lload_n (i := 2) rfl rfl ?_
    refine g_virt2 (Qc := fun r h' => h' = h ∧ r = some (.int (Int32.ofNat (wV m (s.1 * s.2.1) i (x))))) rfl (by decide) rfl F.1 rfl (Nat.le_of_ble_eq_true rfl) (s_worthOf11 (by omega) F g r sI hi) (fun r h hq9 => ?_)
    obtain ⟨rfl, rfl⟩ := hq9
    refine g_aload_n (i := 0) rfl rfl ?_
    refine g_virt0 (Qc := fun r h' => h' = h ∧ r = some (.int (Int32.ofNat (ssN m s.2.2)))) rfl (by decide) rfl F.1 rfl (Nat.le_of_ble_eq_true rfl) (s_shares11 (by omega) F r sI) (fun r h hq9 => ?_)
    obtain ⟨rfl, rfl⟩ := hq9
    refine g_imul rfl ?_
    refine g_aload_n (i := 0) rfl rfl ?_
    refine g_getfield (v := .ref (5 + 2)) rfl F.1 (by decide) rfl ?_
    refine g_iload_n (i := 1) rfl rfl ?_
    refine g_iaload (n := 5) (f := c.2.2.2.1) rfl F.2.2.1 (i_in (by omega) (by omega)) ?_
    rw [i_nat ei, a4.2.2.2]
    refine g_aload_n (i := 0) rfl rfl ?_
    refine g_iload_n (i := 1) rfl rfl ?_
    refine g_aload_n (i := 0) rfl rfl ?_
    refine g_getfield (v := .long (c.2.1 2)) rfl F.1 (by decide) rfl ?_
    rw [g2]
    refine g_virt2 (Qc := fun r h' => h' = h ∧ r = some (.int (Int32.ofNat (wV m (s.1 * s.2.1) i (stO (fun _ => true) (s.1 * s.2.1)))))) rfl (by decide) rfl F.1 rfl (Nat.le_of_ble_eq_true rfl) (s_worthOf11 (by omega) F g r sI hi) (fun r h hq9 => ?_)
    obtain ⟨rfl, rfl⟩ := hq9
    refine g_imul rfl ?_
    refine g_isub rfl ?_
    refine g_ireturn (ty := .int) rfl rfl rfl ?_
    exact ⟨rfl, _, by rw [i_sub (by rw [m1, m2]; omega) (by rw [m1, m2]; omega), m1, m2], rfl⟩
  · skip
    omega
end
section
/-! ===== faults, as one sees them ===== -/
def smN (m : MF) : Nat := (m.1 5).toInt.toNat
noncomputable def F2 (W n sm : Nat) (x : Int64) : Prop := ¬ (ptS W n 64 x < 2 ∧ sm ≤ cnt x)
noncomputable def F3 (W H : Nat) (r : Int) (lane x : Int64) : Prop := x &&& (rdS W H r ||| besS W (W * H) (grF W (W * H) lane ((lane &&& rdS W H r) &&& lane))) = Int64.ofNat 0
noncomputable def F4 (W n : Nat) (wl : Int32) (lane x : Int64) : Prop := ∃ k, k < n ∧ wl = Int32.ofNat k ∧ lane &&& (Int64.ofNat 1 <<< ((Int32.ofNat k).toInt64 &&& 63)) = Int64.ofNat 0 ∧ x &&& ((Int64.ofNat 1 <<< ((Int32.ofNat k).toInt64 &&& 63)) ||| besS W n (Int64.ofNat 1 <<< ((Int32.ofNat k).toInt64 &&& 63))) = Int64.ofNat 0
def F5 (m : MF) (n N i : Nat) (x : Int64) : Prop := wV m n i x * ssN m N < shN m i * wV m n i (stO (fun _ => true) n)
noncomputable def fltP (m : MF) (s : Sg) (S : Nat → Int64) (f i : Nat) : Prop := match f with
  | 2 => F2 s.1 (s.1 * s.2.1) (smN m) (S i)
  | 3 => F3 s.1 s.2.1 (m.1 2).toInt (S 5) (S i)
  | 4 => F4 s.1 (s.1 * s.2.1) (m.1 3) (S 5) (S i)
  | _ => F5 m (s.1 * s.2.1) s.2.2 i (S i)
noncomputable def fst1 (P : Nat → Prop) : Nat → Nat → Option Nat
  | 0, _ => none
  | f + 1, i => @ite _ (P i) (Classical.propDecidable _) (some i) (fst1 P f (i + 1))
theorem fst1_y {P : Nat → Prop} {f i : Nat} (h : P i) : fst1 P (f + 1) i = some i := @if_pos _ (Classical.propDecidable _) h _ _ _
theorem fst1_n {P : Nat → Prop} {f i : Nat} (h : ¬ P i) : fst1 P (f + 1) i = fst1 P f (i + 1) := @if_neg _ (Classical.propDecidable _) h _ _ _
theorem fst1_no {P : Nat → Prop} : ∀ {f i : Nat}, (∀ j, ¬ P j) → fst1 P f i = none := by
  intro f
  induction f with
  | zero => intro i _; rfl
  | succ f ih => intro i h; rw [fst1_n (h i)]; exact ih h
theorem fst1_lt {P : Nat → Prop} : ∀ {f i j : Nat}, fst1 P f i = some j → i ≤ j ∧ j < i + f ∧ P j := by
  intro f
  induction f with
  | zero => intro i j h; cases h
  | succ f ih =>
    intro i j h
    by_cases z : P i
    · rw [fst1_y z] at h
      cases h
      exact ⟨Nat.le_refl _, by omega, z⟩
    · rw [fst1_n z] at h
      have k := ih h
      exact ⟨by omega, by omega, k.2.2⟩
def vdT (o : Option Nat) (f : Nat) (r : Option (Nat × Nat)) : Option (Nat × Nat) := match o with
  | some i => some (f, i)
  | none => r
noncomputable def vdG (F : Nat → Nat → Prop) (N : Nat) : Nat → Nat → Option (Nat × Nat)
  | 0, _ => none
  | k + 1, f => vdT (fst1 (F f) N 0) f (vdG F N k (f + 1))
def lowB (x : Int64) : Nat := cnt ((x &&& -x) - Int64.ofNat 1)
noncomputable def vdA (m : MF) (s : Sg) (S : Nat → Int64) : Option (Nat × Nat) := if S 6 = Int64.ofNat 0 then vdG (fltP m s S) s.2.2 4 2 else some (1, lowB (S 6))
def vdI (o : Option (Nat × Nat)) : Int32 := match o with
  | none => 0
  | some (f, i) => Int32.ofNat (100 * f + i)
theorem low_one {x : Int64} {j : Nat} (h1 : bt x j = true) (h0 : ∀ i, i < j → bt x i = false) (hj : j < 64) : x &&& -x = Int64.ofNat 1 <<< ((Int32.ofNat j).toInt64 &&& 63) := bt_ext (fun i hi => by
  rw [bt_one hj]
  by_cases e : i = j
  · subst e
    rw [neg_low hj h1 h0, decide_eq_true rfl]
  · rw [decide_eq_false e, bt_and]
    by_cases z : bt x i = true
    · have e1 : bt (-x) i = false := by
        show (-x.toBitVec).getLsbD i = false
        rw [BitVec.getLsbD_neg]
        have hj2 : j < i := by
          rcases Nat.lt_trichotomy i j with a | a | a
          · rw [h0 i a] at z; cases z
          · exact absurd a e
          · exact a
        have e3 : (∃ k, k < i ∧ x.toBitVec.getLsbD k = true) = True := eq_true ⟨j, hj2, h1⟩
        have e4 : x.toBitVec.getLsbD i = true := z
        simp only [e3, e4, decide_true, decide_eq_true hi]
        rfl
      rw [e1, Bool.and_false]
    · rw [nTF z, Bool.false_and])
theorem cntB_all {j : Nat} (hj : j ≤ 64) : ∀ k, cntB (stO (fun _ => true) j) k = if k ≤ j then k else j := by
  intro k
  induction k with
  | zero => exact (if_pos (Nat.zero_le _)).symm
  | succ k ih =>
    show cntB (stO (fun _ => true) j) k + (if bt (stO (fun _ => true) j) k = true then 1 else 0) = _
    rw [ih, bt_stO _ _ hj, Bool.and_true]
    by_cases a : k < j
    · rw [if_pos (by omega), decide_eq_true a, if_pos rfl, if_pos (by omega)]
    · rw [decide_eq_false a, if_neg (show ¬ (false = true) by decide)]
      by_cases b : k ≤ j
      · rw [if_pos b, if_neg (by omega)]; omega
      · rw [if_neg b, if_neg (by omega)]; rfl
theorem lowB_of {x : Int64} {j : Nat} (hj : j < 64) (h1 : bt x j = true) (h0 : ∀ i, i < j → bt x i = false) : lowB x = j := by
  unfold lowB
  rw [low_one h1 h0 hj, low_st j hj]
  unfold cnt
  rw [cntB_all (by omega)]
  by_cases e : 64 ≤ j
  · omega
  · rw [if_neg e]
theorem pt2 {W n : Nat} {x : Int64} : ptS W n 64 x < 2 ↔ grF W n x ((x &&& -x) &&& x) = x := by
  have hsub : sb (grF W n x ((x &&& -x) &&& x)) x := by rw [← gr_64]; exact gr_in 64 _ sb_and
  show (if x = Int64.ofNat 0 then 0 else ptS W n 63 (x &&& (grF W n x ((x &&& -x) &&& x) ^^^ lM1)) + 1) < 2 ↔ _
  by_cases hx : x = Int64.ofNat 0
  · rw [if_pos hx]
    refine ⟨fun _ => ?_, fun _ => by decide⟩
    refine bt_ext (fun i hi => ?_)
    by_cases z : bt (grF W n x ((x &&& -x) &&& x)) i = true
    · rw [z, hsub i hi z]
    · rw [nTF z, hx, bt_0]
  · rw [if_neg hx]
    show (if x &&& (grF W n x ((x &&& -x) &&& x) ^^^ lM1) = Int64.ofNat 0 then 0 else ptS W n 62 _ + 1) + 1 < 2 ↔ _
    by_cases hy : x &&& (grF W n x ((x &&& -x) &&& x) ^^^ lM1) = Int64.ofNat 0
    · rw [if_pos hy]
      refine ⟨fun _ => bt_ext (fun i hi => ?_), fun _ => by decide⟩
      have k := bt_eq0.mp hy i hi
      rw [bt_and, bt_not, decide_eq_true hi, Bool.true_and] at k
      by_cases z : bt (grF W n x ((x &&& -x) &&& x)) i = true
      · rw [z, hsub i hi z]
      · rw [nTF z] at k ⊢
        rw [Bool.not_false, Bool.and_true] at k
        exact k.symm
    · rw [if_neg hy]
      refine ⟨fun z => by omega, fun z => absurd ?_ hy⟩
      rw [z]
      refine bt_eq0.mpr (fun i hi => ?_)
      rw [bt_and, bt_not, decide_eq_true hi, Bool.true_and]
      cases bt x i <;> rfl
theorem rch_iff {x a gg b : Int64} (h : ∀ i, i < 64 → bt x i = true → bt gg i = false) : x &&& (a ||| (gg ||| b)) = Int64.ofNat 0 ↔ x &&& (a ||| b) = Int64.ofNat 0 := by
  have e : x &&& (a ||| (gg ||| b)) = x &&& (a ||| b) := bt_ext (fun i hi => by
    rw [bt_and, bt_and, bt_or, bt_or, bt_or]
    by_cases z : bt x i = true
    · rw [h i hi z, Bool.false_or]
    · rw [nTF z, Bool.false_and, Bool.false_and])
  rw [e]
/-- no square of both -/
def dj (x y : Int64) : Prop := ∀ i, i < 64 → bt x i = true → bt y i = false
theorem inN_bit {n k : Nat} (hk : k < n) (hn : n ≤ 64) : inN (Int64.ofNat 1 <<< ((Int32.ofNat k).toInt64 &&& 63)) n := fun i hi z => by
  rw [bt_one (by omega)] at z
  have := of_decide_eq_true z
  omega
theorem RN_k {c : CF} {m : MF} (r : RB c m) : ∀ k, k ≤ 3 → c.1 (7 + k) = m.1 (2 + k) := by
  obtain ⟨W, H, N, -, -, -, -, -, -, mk⟩ := r.1
  exact mk
theorem RP_k {c : CF} {m : MF} {s : Sg} (r : RB c m) (sI : sgI c s) : (0 ≤ (m.1 2).toInt ∧ (m.1 2).toInt ≤ 3) ∧ (m.1 3 = -1 ∨ ∃ k, k < s.1 * s.2.1 ∧ m.1 3 = Int32.ofNat k) ∧ (0 ≤ (m.1 5).toInt ∧ (m.1 5).toInt ≤ 20) := by
  have RP := (r.2 s sI).2
  obtain ⟨s', sI', -, g, -⟩ := RN_sg r.1
  have e : s' = s := sgI_inj sI' sI
  subst e
  have hn := gdF_n g
  have p0 := RP 0 (by decide)
  have p1 := RP 1 (by decide)
  have p3 := RP 3 (by decide)
  unfold okPl at p0 p1 p3
  have e1 : (-1 : Int32).toInt = -1 := rfl
  have p0 : 0 ≤ (m.1 2).toInt ∧ (m.1 2).toInt ≤ 3 := by
    have e : (m.1 (2 + 0)).toInt = (m.1 2).toInt := rfl
    omega
  have p3 : 0 ≤ (m.1 5).toInt ∧ (m.1 5).toInt ≤ 20 := by
    have e : (m.1 (2 + 3)).toInt = (m.1 5).toInt := rfl
    omega
  refine ⟨p0, ?_, p3⟩
  by_cases z : m.1 3 = -1
  · exact Or.inl z
  · have k : 0 ≤ (m.1 3).toInt ∧ (m.1 3).toInt < ((s'.1 * s'.2.1 : Nat) : Int) := by
      have e : (m.1 (2 + 1)).toInt = (m.1 3).toInt := rfl
      have : ¬ (m.1 3).toInt = -1 := fun y => z (Int32.toInt_inj.mp (y.trans e1.symm))
      omega
    exact Or.inr ⟨(m.1 3).toInt.toNat, by omega, Int32.toInt_inj.mp (by rw [ofN_toInt (by omega)]; omega)⟩
theorem s_hasFault {d : Nat} {h : sHp} {c : CF} {m : MF} {s : Sg} {S : Nat → Int64} {i : Nat} {f : Nat} (hd : 6 ≤ d) (F : FC h 5 c) (g : gdF c s.1 s.2.1) (r : RB c m) (sI : sgI c s) (hi : i < s.2.2) (hx : inN (S i) (s.1 * s.2.1)) (hl : inN (S 5) (s.1 * s.2.1)) (hdj : dj (S i) (S 5)) (hf : 2 ≤ f ∧ f ≤ 5) : sDo d 49 [.ref 5, .int (Int32.ofNat f), .int (Int32.ofNat i), .long (S i), .long (S 5)] h (fun r h' => h' = h ∧ (fltP m s S f i ∧ r = some (.int 1) ∨ ¬ fltP m s S f i ∧ r = some (.int 0))) := by
  have hn := gdF_n g
  have RK := RN_k r
  have RP := RP_k r sI
  have e7 : c.1 7 = m.1 2 := RK 0 (by decide)
  have e8 : c.1 8 = m.1 3 := RK 1 (by decide)
  have e10 : c.1 10 = m.1 5 := RK 3 (by decide)
  have hr7 : 0 ≤ (c.1 7).toInt ∧ (c.1 7).toInt ≤ 3 := by rw [e7]; exact RP.1
  have es : (c.1 10).toInt = ((smN m : Nat) : Int) := by
    rw [e10]
    unfold smN
    have := RP.2.2
    omega
  have ecx : (Int32.ofNat (cnt (S i))).toInt = ((cnt (S i) : Nat) : Int) := ofN_toInt (by have := cnt_le (S i); omega)
  rcases (show f = 2 ∨ f = 3 ∨ f = 4 ∨ f = 5 by omega) with rfl | rfl | rfl | rfl
  · refine sDo_of1 (nL := 7) (L := [some (.ref 5), some (.int (Int32.ofNat 2)), some (.int (Int32.ofNat i)), some (.long (S i)), none, some (.long (S 5)), none]) (by omega) rfl rfl ?_
    have hv : (Int32.ofNat 2).toInt = 2 := rfl
    refine g_iload_n (i := 1) rfl rfl ?_
    refine g_tsIn 0 28 rfl (by omega) (by rw [hv]; rfl) rfl rfl ?_
    refine g_lload_n (i := 3) rfl rfl ?_
    refine g_static1 (Qc := fun r h' => h' = h ∧ r = some (.int (Int32.ofNat (cnt (S i))))) rfl (by decide) rfl (Nat.le_of_ble_eq_true rfl) (s_bitCount (by omega)) (fun r h hq9 => ?_)
    obtain ⟨rfl, rfl⟩ := hq9
    refine g_aload_n (i := 0) rfl rfl ?_
    refine g_getfield (v := .int (c.1 10)) rfl F.1 (by decide) rfl ?_
    refine g_icmp_lt 53 rfl rfl (fun c_1 => ?_) (fun c_1 => ?_)
    · skip
      rw [i_lt, ecx, es] at c_1
      refine g_iconst (n := 1) rfl ?_
      refine g_goto 58 rfl rfl ?_
      refine g_ireturn (ty := .boolean) rfl rfl (by decide) ?_
      exact ⟨rfl, Or.inl ⟨fun z => by have := z.2; omega, rfl⟩⟩
    · skip
      rw [i_lt, ecx, es] at c_1
      refine g_aload_n (i := 0) rfl rfl ?_
      refine g_lload_n (i := 3) rfl rfl ?_
      refine g_lload_n (i := 3) rfl rfl ?_
      refine g_lneg rfl ?_
      refine g_land rfl ?_
      refine g_lload_n (i := 3) rfl rfl ?_
      refine g_virt2 (Qc := fun r h' => h' = h ∧ r = some (.long (grF s.1 (s.1 * s.2.1) (S i) ((S i &&& -(S i)) &&& S i)))) rfl (by decide) rfl F.1 rfl (Nat.le_of_ble_eq_true rfl) (s_grown11 (q0 := S i &&& -(S i)) (by omega) F g hx) (fun r h hq9 => ?_)
      obtain ⟨rfl, rfl⟩ := hq9
      refine g_lload_n (i := 3) rfl rfl ?_
      refine g_lcmp rfl ?_
      refine g_if_eq 57 rfl rfl (fun c_2 => ?_) (fun c_2 => ?_)
      · skip
        rw [lc_eq] at c_2
        refine g_iconst (n := 0) rfl ?_
        refine g_ireturn (ty := .boolean) rfl rfl (by decide) ?_
        exact ⟨rfl, Or.inr ⟨fun z => z ⟨pt2.mpr c_2, by omega⟩, rfl⟩⟩
      · skip
        rw [lc_eq] at c_2
        refine g_iconst (n := 1) rfl ?_
        refine g_goto 58 rfl rfl ?_
        refine g_ireturn (ty := .boolean) rfl rfl (by decide) ?_
        exact ⟨rfl, Or.inl ⟨fun z => c_2 (pt2.mp z.1), rfl⟩⟩
  · refine sDo_of1 (nL := 7) (L := [some (.ref 5), some (.int (Int32.ofNat 3)), some (.int (Int32.ofNat i)), some (.long (S i)), none, some (.long (S 5)), none]) (by omega) rfl rfl ?_
    have hv : (Int32.ofNat 3).toInt = 3 := rfl
    have hgl : dj (S i) (grF s.1 (s.1 * s.2.1) (S 5) ((S 5 &&& rdS s.1 s.2.1 (c.1 7).toInt) &&& S 5)) := fun q hq z => by
      by_cases y : bt (grF s.1 (s.1 * s.2.1) (S 5) ((S 5 &&& rdS s.1 s.2.1 (c.1 7).toInt) &&& S 5)) q = true
      · have k : sb (grF s.1 (s.1 * s.2.1) (S 5) ((S 5 &&& rdS s.1 s.2.1 (c.1 7).toInt) &&& S 5)) (S 5) := by rw [← gr_64]; exact gr_in 64 _ sb_and
        have k2 := hdj q hq z
        rw [k q hq y] at k2
        cases k2
      · exact nTF y
    have key := rch_iff (a := rdS s.1 s.2.1 (c.1 7).toInt) (b := besS s.1 (s.1 * s.2.1) (grF s.1 (s.1 * s.2.1) (S 5) ((S 5 &&& rdS s.1 s.2.1 (c.1 7).toInt) &&& S 5))) hgl
    refine g_iload_n (i := 1) rfl rfl ?_
    refine g_tsIn 1 59 rfl (by omega) (by rw [hv]; rfl) rfl rfl ?_
    refine g_lload_n (i := 3) rfl rfl ?_
    refine g_aload_n (i := 0) rfl rfl ?_
    refine g_lload (i := 5) rfl rfl ?_
    refine g_virt1 (Qc := fun r h' => h' = h ∧ r = some (.long (rdS s.1 s.2.1 (c.1 7).toInt ||| (grF s.1 (s.1 * s.2.1) (S 5) ((S 5 &&& rdS s.1 s.2.1 (c.1 7).toInt) &&& S 5) ||| besS s.1 (s.1 * s.2.1) (grF s.1 (s.1 * s.2.1) (S 5) ((S 5 &&& rdS s.1 s.2.1 (c.1 7).toInt) &&& S 5)))))) rfl (by decide) rfl F.1 rfl (Nat.le_of_ble_eq_true rfl) (s_reach11 (by omega) F g hr7 hl) (fun r h hq9 => ?_)
    obtain ⟨rfl, rfl⟩ := hq9
    refine g_land rfl ?_
    refine g_lconst (n := 0) rfl ?_
    show sGo none 49 _ 68 [some (.ref 5), some (.int (Int32.ofNat 3)), some (.int (Int32.ofNat i)), some (.long (S i)), none, some (.long (S 5)), none] [.long (Int64.ofNat 0), .long ((S i) &&& (rdS s.1 s.2.1 (c.1 7).toInt ||| (grF s.1 (s.1 * s.2.1) (S 5) ((S 5 &&& rdS s.1 s.2.1 (c.1 7).toInt) &&& S 5) ||| besS s.1 (s.1 * s.2.1) (grF s.1 (s.1 * s.2.1) (S 5) ((S 5 &&& rdS s.1 s.2.1 (c.1 7).toInt) &&& S 5)))))] _ _
    refine g_lcmp rfl ?_
    refine g_if_ne 76 rfl rfl (fun c_1 => ?_) (fun c_1 => ?_)
    · skip
      rw [lc_eq] at c_1
      refine g_iconst (n := 0) rfl ?_
      refine g_ireturn (ty := .boolean) rfl rfl (by decide) ?_
      exact ⟨rfl, Or.inr ⟨fun z => c_1 (key.mpr (by have z : F3 s.1 s.2.1 (m.1 2).toInt (S 5) (S i) := z; unfold F3 at z; rw [← e7] at z; exact z)), rfl⟩⟩
    · skip
      rw [lc_eq] at c_1
      refine g_iconst (n := 1) rfl ?_
      refine g_goto 77 rfl rfl ?_
      refine g_ireturn (ty := .boolean) rfl rfl (by decide) ?_
      exact ⟨rfl, Or.inl ⟨(by show F3 _ _ _ _ _; unfold F3; rw [← e7]; exact key.mp c_1), rfl⟩⟩
  · have hv : (Int32.ofNat 4).toInt = 4 := rfl
    rcases RP.2.1 with hw | ⟨k, hk, hw⟩
    · refine sDo_of1 (nL := 7) (L := [some (.ref 5), some (.int (Int32.ofNat 4)), some (.int (Int32.ofNat i)), some (.long (S i)), none, some (.long (S 5)), none]) (by omega) rfl rfl ?_
      have hn4 : ¬ fltP m s S 4 i := fun z => by
        obtain ⟨k, hk, e, -⟩ := z
        rw [hw] at e
        have e2 := congrArg Int32.toInt e
        rw [ofN_toInt (by omega)] at e2
        have e1 : (-1 : Int32).toInt = -1 := rfl
        omega
      refine g_iload_n (i := 1) rfl rfl ?_
      refine g_tsIn 2 78 rfl (by omega) (by rw [hv]; rfl) rfl rfl ?_
      refine g_aload_n (i := 0) rfl rfl ?_
      refine g_lload (i := 5) rfl rfl ?_
      refine g_virt1 (Qc := fun r h' => h' = h ∧ r = some (.int 0)) rfl (by decide) rfl F.1 rfl (Nat.le_of_ble_eq_true rfl) (s_well11n (by omega) F g (e8.trans hw)) (fun r h hq9 => ?_)
      obtain ⟨rfl, rfl⟩ := hq9
      refine g_if_eq 110 rfl rfl (fun _ => ?_) (fun hc => absurd hc (by decide))
      refine g_iconst (n := 0) rfl ?_
      refine g_ireturn (ty := .boolean) rfl rfl (by decide) ?_
      exact ⟨rfl, Or.inr ⟨hn4, rfl⟩⟩
    · refine sDo_of1 (nL := 7) (L := [some (.ref 5), some (.int (Int32.ofNat 4)), some (.int (Int32.ofNat i)), some (.long (S i)), none, some (.long (S 5)), none]) (by omega) rfl rfl ?_
      have hkw : c.1 8 = Int32.ofNat k := e8.trans hw
      have uk : ∀ k2, k2 < s.1 * s.2.1 → m.1 3 = Int32.ofNat k2 → k2 = k := fun k2 h2 e => ofN_inj (by omega) (by omega) (e.symm.trans hw)
      refine g_iload_n (i := 1) rfl rfl ?_
      refine g_tsIn 2 78 rfl (by omega) (by rw [hv]; rfl) rfl rfl ?_
      refine g_aload_n (i := 0) rfl rfl ?_
      refine g_lload (i := 5) rfl rfl ?_
      refine g_virt1 (Qc := fun r h' => h' = h ∧ (((S 5 &&& (Int64.ofNat 1 <<< ((Int32.ofNat k).toInt64 &&& 63)) = Int64.ofNat 0) ∧ r = some (.int 1)) ∨ (¬ (S 5 &&& (Int64.ofNat 1 <<< ((Int32.ofNat k).toInt64 &&& 63)) = Int64.ofNat 0) ∧ r = some (.int 0)))) rfl (by decide) rfl F.1 rfl (Nat.le_of_ble_eq_true rfl) (s_well11 (by omega) F g hkw hk) (fun r h hq9 => ?_)
      obtain ⟨rfl, ⟨c_1, rfl⟩ | ⟨c_1, rfl⟩⟩ := hq9
      · skip
        refine g_if_eq 110 rfl rfl (fun hc => absurd hc (by decide)) (fun _ => ?_)
        refine g_lload_n (i := 3) rfl rfl ?_
        refine g_aload_n (i := 0) rfl rfl ?_
        refine g_aload_n (i := 0) rfl rfl ?_
        refine g_aload_n (i := 0) rfl rfl ?_
        refine g_getfield (v := .int (c.1 8)) rfl F.1 (by decide) rfl ?_
        rw [hkw]
        refine g_virt1 (Qc := fun r h' => h' = h ∧ r = some (.long (Int64.ofNat 1 <<< ((Int32.ofNat k).toInt64 &&& 63)))) rfl (by decide) rfl F.1 rfl (Nat.le_of_ble_eq_true rfl) (s_only8 (by omega) F g hk) (fun r h hq9 => ?_)
        obtain ⟨rfl, rfl⟩ := hq9
        refine g_virt1 (Qc := fun r h' => h' = h ∧ r = some (.long ((Int64.ofNat 1 <<< ((Int32.ofNat k).toInt64 &&& 63)) ||| besS s.1 (s.1 * s.2.1) (Int64.ofNat 1 <<< ((Int32.ofNat k).toInt64 &&& 63))))) rfl (by decide) rfl F.1 rfl (Nat.le_of_ble_eq_true rfl) (s_withBeside (by omega) F g (inN_bit hk hn.1)) (fun r h hq9 => ?_)
        obtain ⟨rfl, rfl⟩ := hq9
        refine g_land rfl ?_
        refine g_lconst (n := 0) rfl ?_
        show sGo none 49 _ 102 [some (.ref 5), some (.int (Int32.ofNat 4)), some (.int (Int32.ofNat i)), some (.long (S i)), none, some (.long (S 5)), none] [.long (Int64.ofNat 0), .long ((S i) &&& ((Int64.ofNat 1 <<< ((Int32.ofNat k).toInt64 &&& 63)) ||| besS s.1 (s.1 * s.2.1) (Int64.ofNat 1 <<< ((Int32.ofNat k).toInt64 &&& 63))))] _ _
        refine g_lcmp rfl ?_
        refine g_if_ne 110 rfl rfl (fun c_2 => ?_) (fun c_2 => ?_)
        · skip
          rw [lc_eq] at c_2
          refine g_iconst (n := 0) rfl ?_
          refine g_ireturn (ty := .boolean) rfl rfl (by decide) ?_
          refine ⟨rfl, Or.inr ⟨fun z => ?_, rfl⟩⟩
          obtain ⟨k2, h2, e2, z1, z2⟩ := z
          obtain rfl := uk k2 h2 e2
          exact absurd z2 c_2
        · skip
          rw [lc_eq] at c_2
          refine g_iconst (n := 1) rfl ?_
          refine g_goto 111 rfl rfl ?_
          refine g_ireturn (ty := .boolean) rfl rfl (by decide) ?_
          exact ⟨rfl, Or.inl ⟨⟨k, hk, hw, c_1, c_2⟩, rfl⟩⟩
      · skip
        refine g_if_eq 110 rfl rfl (fun _ => ?_) (fun hc => absurd hc (by decide))
        refine g_iconst (n := 0) rfl ?_
        refine g_ireturn (ty := .boolean) rfl rfl (by decide) ?_
        refine ⟨rfl, Or.inr ⟨fun z => ?_, rfl⟩⟩
        obtain ⟨k2, h2, e2, z1, z2⟩ := z
        obtain rfl := uk k2 h2 e2
        exact absurd z1 c_1
  · refine sDo_of1 (nL := 7) (L := [some (.ref 5), some (.int (Int32.ofNat 5)), some (.int (Int32.ofNat i)), some (.long (S i)), none, some (.long (S 5)), none]) (by omega) rfl rfl ?_
    have hv : (Int32.ofNat 5).toInt = 5 := rfl
    refine g_iload_n (i := 1) rfl rfl ?_
    refine g_tsOut 112 rfl (by omega) rfl ?_
    refine g_aload_n (i := 0) rfl rfl ?_
    refine g_iload_n (i := 2) rfl rfl ?_
    refine g_lload_n (i := 3) rfl rfl ?_
    refine g_virt2 rfl (by decide) rfl F.1 rfl (Nat.le_of_ble_eq_true rfl) (s_surplus11 (d := d - 1) (by omega) F g r sI hi) (fun r h9 hq => ?_)
    obtain ⟨rfl, v, ev, rfl⟩ := hq
    have k_2 : (0 : Int32).toInt = 0 := rfl
    refine g_if_ge 125 rfl rfl (fun c_1 => ?_) (fun c_1 => ?_)
    · skip
      rw [i_le, k_2] at c_1
      refine g_iconst (n := 0) rfl ?_
      refine g_ireturn (ty := .boolean) rfl rfl (by decide) ?_
      exact ⟨rfl, Or.inr ⟨fun z => by have z : F5 m (s.1 * s.2.1) s.2.2 i (S i) := z; unfold F5 at z; omega, rfl⟩⟩
    · skip
      rw [i_le, k_2] at c_1
      refine g_iconst (n := 1) rfl ?_
      refine g_goto 126 rfl rfl ?_
      refine g_ireturn (ty := .boolean) rfl rfl (by decide) ?_
      exact ⟨rfl, Or.inl ⟨(by show F5 _ _ _ _ _; unfold F5; omega), rfl⟩⟩
theorem PT_inN {S : Nat → Int64} {ow : Nat → Int32} {n k : Nat} (hn : n ≤ 64) (P : PT S ow n) (hk : k < 7) : inN (S k) n := fun i hi z => by
  by_cases y : i < n
  · exact y
  · rw [PT_out hn P hk y] at z; cases z
theorem PT_dj {S : Nat → Int64} {ow : Nat → Int32} {n a b : Nat} (hn : n ≤ 64) (P : PT S ow n) (ha : a < 7) (hb : b < 7) (hab : ¬ a = b) : dj (S a) (S b) := fun i hi z => by
  have y := PT_inN hn P ha i hi z
  rw [PT_bt hn P ha y] at z
  rw [PT_bt hn P hb y]
  exact decide_eq_false (fun e => hab (cdS_inj ha hb ((of_decide_eq_true z).symm.trans e)))
theorem s_verd_go {d : Nat} {h : sHp} {c : CF} {m : MF} {s : Sg} {S : Nat → Int64} {ow : Nat → Int32} {p : Nat} {x6 : Int64} (hd : 6 ≤ d) (F : FC h 5 c) (g : gdF c s.1 s.2.1) (r : RB c m) (sI : sgI c s) (hp : h[p]? = some (.inl (1, 7, .inr (.inl S)))) (P : PT S ow (s.1 * s.2.1)) : ∀ (gg f : Nat) (o5 : Option Value), f + gg = 6 → 2 ≤ f → sGo none 48 d 36 [some (.ref 5), some (.ref p), some (.long x6), none, some (.int (Int32.ofNat f)), o5] [] h (fun r h' => h' = h ∧ r = some (.int (vdI (vdG (fltP m s S) s.2.2 gg f)))) := by
  have hn := gdF_n g
  have n5 := sI.2.2.2.2.2.2.2
  have e11 : (c.1 11).toInt = ((s.2.2 : Nat) : Int) := by rw [sI.2.2.1]; exact ofN_toInt (by omega)
  intro gg
  induction gg with
  | zero =>
    intro f o5 hf h2
    have f6 : f = 6 := by omega
    subst f6
    refine g_iload (i := 4) rfl rfl ?_
    refine g_iconst (n := 5) rfl ?_
    refine g_icmp_gt 99 rfl rfl (fun _ => ?_) (fun hc => absurd hc (by exact fun z => z (by decide)))
    refine g_iconst (n := 0) rfl ?_
    refine g_ireturn (ty := .int) rfl rfl rfl ?_
    exact ⟨rfl, rfl⟩
  | succ gg iho =>
    intro f o5 hf h2
    have ef := ofN_toInt (n := f) (by omega)
    have e5 : (Int32.ofInt 5).toInt = 5 := rfl
    have inn : ∀ (N k : Nat), k + N = s.2.2 → sGo none 48 d 45 [some (.ref 5), some (.ref p), some (.long x6), none, some (.int (Int32.ofNat f)), some (.int (Int32.ofNat k))] [] h (fun r h' => h' = h ∧ r = some (.int (vdI (vdT (fst1 (fltP m s S f) N k) f (vdG (fltP m s S) s.2.2 gg (f + 1)))))) := by
      intro N
      induction N with
      | zero =>
        intro k hk
        have ek := ofN_toInt (n := k) (by omega)
        refine g_iload (i := 5) rfl rfl ?_
        refine g_aload_n (i := 0) rfl rfl ?_
        refine g_getfield (v := .int (c.1 11)) rfl F.1 (by decide) rfl ?_
        refine g_icmp_ge 93 rfl rfl (fun _ => ?_) (fun hc => absurd hc (by rw [i_le, e11, ek]; omega))
        refine g_iinc (i := 4) (L1 := [some (.ref 5), some (.ref p), some (.long x6), none, some (.int ((Int32.ofNat f) + Int32.ofInt 1)), some (.int (Int32.ofNat k))]) rfl rfl rfl ?_
        rw [ofN_add (by omega)]
        refine g_goto 36 rfl rfl ?_
        exact iho (f + 1) _ (by omega) (by omega)
      | succ N ih =>
        intro k hk
        have ek := ofN_toInt (n := k) (by omega)
        have hk5 : k < s.2.2 := by omega
        refine g_iload (i := 5) rfl rfl ?_
        refine g_aload_n (i := 0) rfl rfl ?_
        refine g_getfield (v := .int (c.1 11)) rfl F.1 (by decide) rfl ?_
        refine g_icmp_ge 93 rfl rfl (fun hc => absurd hc (by rw [i_le, e11, ek]; omega)) (fun _ => ?_)
        refine g_iload (i := 5) rfl rfl ?_
        refine g_iconst (n := 5) rfl ?_
        refine g_icmp_ge 93 rfl rfl (fun hc => absurd hc (by rw [i_le, ek, e5]; omega)) (fun _ => ?_)
        refine g_aload_n (i := 0) rfl rfl ?_
        refine g_iload (i := 4) rfl rfl ?_
        refine g_iload (i := 5) rfl rfl ?_
        refine g_aload_n (i := 1) rfl rfl ?_
        refine g_iload (i := 5) rfl rfl ?_
        refine g_laload (n := 7) (f := S) rfl hp (i_in (by omega) (by omega)) ?_
        rw [i_nat ek]
        refine g_aload_n (i := 1) rfl rfl ?_
        refine g_iconst (n := 5) rfl ?_
        have k_1 : (Int32.ofInt 5).toInt = 5 := rfl
        refine g_laload (n := 7) (f := S) rfl hp (i_in (by omega) (by omega)) ?_
        rw [i_nat k_1]
        refine g_virt4 (Qc := fun r h' => h' = h ∧ (((fltP m s S f k) ∧ r = some (.int 1)) ∨ (¬ (fltP m s S f k) ∧ r = some (.int 0)))) rfl (by decide) rfl F.1 rfl (Nat.le_of_ble_eq_true rfl) (s_hasFault (by omega) F g r sI hk5 (PT_inN hn.1 P (by omega)) (PT_inN hn.1 P (by decide)) (PT_dj hn.1 P (by omega) (by decide) (by omega)) ⟨h2, by omega⟩) (fun r h hq9 => ?_)
        obtain ⟨rfl, ⟨c_2, rfl⟩ | ⟨c_2, rfl⟩⟩ := hq9
        · skip
          rw [fst1_y c_2]
          refine g_if_eq 87 rfl rfl (fun hc => absurd hc (by decide)) (fun _ => ?_)
          refine g_bipush (n := 100) rfl ?_
          refine g_iload (i := 4) rfl rfl ?_
          refine g_imul rfl ?_
          refine g_iload (i := 5) rfl rfl ?_
          refine g_iadd rfl ?_
          refine g_ireturn (ty := .int) rfl rfl rfl ?_
          refine ⟨rfl, congrArg (fun z => some (Value.int z)) ?_⟩
          show _ = Int32.ofNat (100 * f + k)
          refine Int32.toInt_inj.mp ?_
          have eh : (Int8.ofInt 100).toInt32.toInt = ((100 : Nat) : Int) := rfl
          have em : ((Int8.ofInt 100).toInt32 * Int32.ofNat f).toInt = ((100 * f : Nat) : Int) := n_mul eh ef (by omega)
          rw [i_add (by rw [em, ek]; omega) (by rw [em, ek]; omega), em, ek, ofC_toInt (by omega)]
          omega
        · skip
          rw [fst1_n c_2]
          refine g_if_eq 87 rfl rfl (fun _ => ?_) (fun hc => absurd hc (by decide))
          refine g_iinc (i := 5) (L1 := [some (.ref 5), some (.ref p), some (.long x6), none, some (.int (Int32.ofNat f)), some (.int ((Int32.ofNat k) + Int32.ofInt 1))]) rfl rfl rfl ?_
          rw [ofN_add (by omega)]
          refine g_goto 45 rfl rfl ?_
          exact ih (k + 1) (by omega)
    refine g_iload (i := 4) rfl rfl ?_
    refine g_iconst (n := 5) rfl ?_
    refine g_icmp_gt 99 rfl rfl (fun hc => absurd hc (by rw [i_lt, ef, e5]; omega)) (fun _ => ?_)
    refine g_iconst (n := 0) rfl ?_
    refine g_istore (i := 5) (L1 := [some (.ref 5), some (.ref p), some (.long x6), none, some (.int (Int32.ofNat f)), some (.int (Int32.ofInt 0))]) rfl (Nat.le_of_ble_eq_true rfl) rfl ?_
    exact inn s.2.2 0 (Nat.zero_add _)
theorem s_verd11 {d : Nat} {h : sHp} {c : CF} {m : MF} {s : Sg} {S : Nat → Int64} {ow : Nat → Int32} {p : Nat} (hd : 7 ≤ d) (F : FC h 5 c) (g : gdF c s.1 s.2.1) (r : RB c m) (sI : sgI c s) (hp : h[p]? = some (.inl (1, 7, .inr (.inl S)))) (P : PT S ow (s.1 * s.2.1)) : sDo d 48 [.ref 5, .ref p] h (fun r h' => h' = h ∧ r = some (.int (vdI (vdA m s S)))) := by
  have e6 : (Int8.ofInt 6).toInt32.toInt = ((6 : Nat) : Int) := rfl
  refine sDo_of1 (nL := 6) (L := [some (.ref 5), some (.ref p), none, none, none, none]) (by omega) rfl rfl ?_
  refine g_aload_n (i := 1) rfl rfl ?_
  refine g_alen rfl hp (by decide) ?_
  refine g_bipush (n := 7) rfl ?_
  refine g_icmp_ge 9 rfl rfl (fun _ => ?_) (fun hc => absurd hc (by exact fun z => z (by decide)))
  refine g_aload_n (i := 1) rfl rfl ?_
  refine g_bipush (n := 6) rfl ?_
  refine g_laload (n := 7) (f := S) rfl hp (i_in (by omega) (by omega)) ?_
  rw [i_nat e6]
  refine g_lstore_n (i := 2) (L1 := [some (.ref 5), some (.ref p), some (.long (S 6)), none, none, none]) rfl (Nat.le_of_ble_eq_true rfl) rfl ?_
  refine g_lload_n (i := 2) rfl rfl ?_
  refine g_lconst (n := 0) rfl ?_
  show sGo none 48 _ 16 [some (.ref 5), some (.ref p), some (.long (S 6)), none, none, none] [.long (Int64.ofNat 0), .long (S 6)] _ _
  refine g_lcmp rfl ?_
  refine g_if_eq 33 rfl rfl (fun c_1 => ?_) (fun c_1 => ?_)
  · skip
    rw [lc_eq] at c_1
    refine g_iconst (n := 2) rfl ?_
    refine g_istore (i := 4) (L1 := [some (.ref 5), some (.ref p), some (.long (S 6)), none, some (.int (Int32.ofInt 2)), none]) rfl (Nat.le_of_ble_eq_true rfl) rfl ?_
    unfold vdA
    rw [if_pos c_1]
    exact s_verd_go (d := d - 1) (by omega) F g r sI hp P 4 2 _ (by decide) (by decide)
  · skip
    rw [lc_eq] at c_1
    refine g_bipush (n := 100) rfl ?_
    refine g_lload_n (i := 2) rfl rfl ?_
    refine g_lload_n (i := 2) rfl rfl ?_
    refine g_lneg rfl ?_
    refine g_land rfl ?_
    refine g_lconst (n := 1) rfl ?_
    show sGo none 48 _ 27 [some (.ref 5), some (.ref p), some (.long (S 6)), none, none, none] [.long (Int64.ofNat 1), .long ((S 6) &&& (-(S 6))), .int (Int8.ofInt 100).toInt32] _ _
    refine g_lsub rfl ?_
    refine g_static1 (Qc := fun r h' => h' = h ∧ r = some (.int (Int32.ofNat (cnt ((((S 6) &&& (-(S 6))) - (Int64.ofNat 1))))))) rfl (by decide) rfl (Nat.le_of_ble_eq_true rfl) (s_bitCount (by omega)) (fun r h hq9 => ?_)
    obtain ⟨rfl, rfl⟩ := hq9
    refine g_iadd rfl ?_
    refine g_ireturn (ty := .int) rfl rfl rfl ?_
    refine ⟨rfl, congrArg (fun z => some (Value.int z)) ?_⟩
    unfold vdA
    rw [if_neg c_1]
    show _ = Int32.ofNat (100 * 1 + lowB (S 6))
    rw [show (Int8.ofInt 100).toInt32 = Int32.ofNat 100 from rfl]
    exact ofB_plus (by have := cnt_le ((S 6 &&& -(S 6)) - Int64.ofNat 1); omega)
end
