/-! ===== hedges of both ===== -/
def hsP (W n : Nat) (P : Nat → Bool) : Nat → Nat
  | 0 => 0
  | q + 1 => hsP W n P q + ((if (decide (q % W + 1 < W) && (P q && P (q + 1))) = true then 1 else 0) + (if (decide (q + W < n) && (P q && P (q + W))) = true then 1 else 0))
def hdN (W n : Nat) (ow : Nat → Int32) : Nat → Nat
  | 0 => 0
  | q + 1 => hdN W n ow q + ((if q % W + 1 < W ∧ ¬ ow q = ow (q + 1) then 1 else 0) + (if q + W < n ∧ ¬ ow q = ow (q + W) then 1 else 0))
def htN (W n : Nat) : Nat → Nat
  | 0 => 0
  | q + 1 => htN W n q + ((if q % W + 1 < W then 1 else 0) + (if q + W < n then 1 else 0))
def edC (L : Int64) (w : Int32) (x : Int64) : Nat := cnt ((x &&& (L ^^^ Int64.ofNat 18446744073709551615)) &&& (((x).toUInt64 >>> ((Int32.ofInt 1).toInt64.toUInt64 &&& Int64.toUInt64 63)).toInt64)) + cnt (x &&& (((x).toUInt64 >>> ((w).toInt64.toUInt64 &&& Int64.toUInt64 63)).toInt64))
def hlN (L : Int64) (w : Int32) (S : Nat → Int64) : Nat → Nat
  | 0 => 0
  | k + 1 => hlN L w S k + edC L w (S k)
theorem hdN_le {W n : Nat} {ow : Nat → Int32} : ∀ q, hdN W n ow q ≤ 2 * q := by
  intro q
  induction q with
  | zero => exact Nat.le_refl _
  | succ q ih =>
    show hdN W n ow q + (_ + _) ≤ _
    split <;> split <;> omega
theorem htN_le {W n : Nat} : ∀ q, htN W n q ≤ 2 * q := by
  intro q
  induction q with
  | zero => exact Nat.le_refl _
  | succ q ih =>
    show htN W n q + (_ + _) ≤ _
    split <;> split <;> omega
theorem edC_le {L : Int64} {w : Int32} {x : Int64} : edC L w x ≤ 128 := by
  unfold edC
  exact Nat.add_le_add (cnt_le _) (cnt_le _)
theorem hlN_le {L : Int64} {w : Int32} {S : Nat → Int64} : ∀ k, hlN L w S k ≤ 128 * k := by
  intro k
  induction k with
  | zero => exact Nat.le_refl _
  | succ k ih =>
    show hlN L w S k + edC L w (S k) ≤ _
    have := edC_le (L := L) (w := w) (x := S k)
    omega
theorem cntB_add {x y : Int64} {W n : Nat} {P : Nat → Bool} (hx : ∀ q, q < n → bt x q = (decide (q % W + 1 < W) && (P q && P (q + 1)))) (hy : ∀ q, q < n → bt y q = (decide (q + W < n) && (P q && P (q + W)))) : ∀ k, k ≤ n → cntB x k + cntB y k = hsP W n P k := by
  intro k
  induction k with
  | zero => intro _; rfl
  | succ k ih =>
    intro hk
    have i := ih (by omega)
    show (cntB x k + (if bt x k = true then 1 else 0)) + (cntB y k + (if bt y k = true then 1 else 0)) = hsP W n P k + _
    rw [hx k (by omega), hy k (by omega)]
    omega
theorem ed_hs {W H : Nat} {P : Nat → Bool} {L : Int64} {w : Int32} (w2 : 2 ≤ W) (w8 : W ≤ 8) (h8 : H ≤ 8) (hL : L = stO (fun i => decide (i % W = W - 1)) (W * H)) (hw : w = Int32.ofNat W) : edC L w (stO P (W * H)) = hsP W (W * H) P (W * H) := by
  have hn := wh_le8 w8 h8
  have nx : ∀ q, q < W * H → q % W + 1 < W → q + 1 < W * H := fun q hq z => nxt_in W (by omega) H (by omega) q (by omega) hq z
  have k1 : ∀ q, q < W * H → bt ((stO P (W * H) &&& (L ^^^ Int64.ofNat 18446744073709551615)) &&& (((stO P (W * H)).toUInt64 >>> ((Int32.ofInt 1).toInt64.toUInt64 &&& Int64.toUInt64 63)).toInt64)) q = (decide (q % W + 1 < W) && (P q && P (q + 1))) := fun q hq => by
    have e := bt_ushr (k := 1) (by decide) (stO P (W * H)) q
    have e2 : bt (((stO P (W * H)).toUInt64 >>> ((Int32.ofInt 1).toInt64.toUInt64 &&& Int64.toUInt64 63)).toInt64) q = bt (stO P (W * H)) (q + 1) := e
    rw [bt_and, bt_and, bt_not, e2, hL, bt_stO _ _ hn, bt_stO _ _ hn, bt_stO _ _ hn, decide_eq_true hq, decide_eq_true (show q < 64 by omega), Bool.true_and, Bool.true_and, Bool.true_and]
    have hm := Nat.mod_lt q (show 0 < W by omega)
    by_cases z : q % W + 1 < W
    · rw [decide_eq_true z, decide_eq_false (show ¬ q % W = W - 1 by omega), decide_eq_true (nx q hq z)]
      cases P q <;> cases P (q + 1) <;> rfl
    · rw [decide_eq_false z, decide_eq_true (show q % W = W - 1 by omega)]
      cases P q <;> rfl
  have k2 : ∀ q, q < W * H → bt (stO P (W * H) &&& (((stO P (W * H)).toUInt64 >>> ((w).toInt64.toUInt64 &&& Int64.toUInt64 63)).toInt64)) q = (decide (q + W < W * H) && (P q && P (q + W))) := fun q hq => by
    rw [hw, bt_and, bt_ushr (by omega), bt_stO _ _ hn, bt_stO _ _ hn, decide_eq_true hq, Bool.true_and]
    cases P q <;> cases P (q + W) <;> cases decide (q + W < W * H) <;> rfl
  have o1 : ∀ (x y : Int64), bt (stO P (W * H) &&& y) 0 = bt (stO P (W * H) &&& y) 0 := fun _ _ => rfl
  have out : ∀ (y : Int64) (i : Nat), W * H ≤ i → i < 64 → bt (stO P (W * H) &&& y) i = false := fun y i hi _ => by
    rw [bt_and, bt_stO _ _ hn, decide_eq_false (show ¬ i < W * H by omega)]
    rfl
  have out2 : ∀ (y z : Int64) (i : Nat), W * H ≤ i → i < 64 → bt ((stO P (W * H) &&& y) &&& z) i = false := fun y z i hi h64 => by
    rw [bt_and, out y i hi h64]
    rfl
  obtain ⟨d, hd⟩ : ∃ d, W * H + d = 64 := ⟨64 - W * H, by omega⟩
  unfold edC cnt
  rw [← hd, cntB_cut d (by omega) (out2 _ _), cntB_cut d (by omega) (out _)]
  exact cntB_add k1 k2 _ (Nat.le_refl _)
/-- the squares of all sets together -/
def hkP (W n : Nat) (ow : Nat → Int32) : Nat → Nat → Nat
  | 0, _ => 0
  | k + 1, q => hkP W n ow k q + hsP W n (fun z => decide (ow z = cdS k)) q
def smE (c : Prop) [Decidable c] (a b : Int32) : Nat → Nat
  | 0 => 0
  | k + 1 => smE c a b k + (if (decide c && (decide (a = cdS k) && decide (b = cdS k))) = true then 1 else 0)
theorem smE_of {c : Prop} [Decidable c] {a b : Int32} {k0 : Nat} (h0 : k0 < 7) (ha : a = cdS k0) : ∀ k, k ≤ 7 → smE c a b k = if c ∧ a = b ∧ k0 < k then 1 else 0 := by
  intro k
  induction k with
  | zero => intro _; exact (if_neg (fun z => Nat.not_lt_zero _ z.2.2)).symm
  | succ k ih =>
    intro hk
    show smE c a b k + _ = _
    rw [ih (by omega)]
    by_cases hc : c
    · rw [decide_eq_true hc, Bool.true_and]
      by_cases hab : a = b
      · subst hab
        by_cases e : k = k0
        · subst e
          rw [decide_eq_true ha, if_neg (fun z => Nat.lt_irrefl _ z.2.2), if_pos (by decide), if_pos ⟨hc, rfl, by omega⟩]
        · rw [decide_eq_false (show ¬ a = cdS k from fun z => e (cdS_inj (by omega) h0 (z.symm.trans ha)))]
          by_cases l : k0 < k
          · rw [if_pos ⟨hc, rfl, l⟩, if_neg (by decide), if_pos ⟨hc, rfl, by omega⟩]
          · rw [if_neg (fun z => l z.2.2), if_neg (by decide), if_neg (fun z => by have := z.2.2; omega)]
      · rw [if_neg (show ¬ (c ∧ a = b ∧ k0 < k) from fun z => hab z.2.1), if_neg (show ¬ (decide (a = cdS k) && decide (b = cdS k)) = true from fun z => by
          rw [Bool.and_eq_true, decide_eq_true_eq, decide_eq_true_eq] at z
          exact hab (z.1.trans z.2.symm)), if_neg (show ¬ (c ∧ a = b ∧ k0 < k + 1) from fun z => hab z.2.1)]
    · rw [decide_eq_false hc, Bool.false_and, if_neg (fun z => hc z.1), if_neg (by decide), if_neg (fun z => hc z.1)]
theorem hkP_s {W n : Nat} {ow : Nat → Int32} {q : Nat} : ∀ k, hkP W n ow k (q + 1) = hkP W n ow k q + (smE (q % W + 1 < W) (ow q) (ow (q + 1)) k + smE (q + W < n) (ow q) (ow (q + W)) k) := by
  intro k
  induction k with
  | zero => rfl
  | succ k ih =>
    show hkP W n ow k (q + 1) + (hsP W n (fun z => decide (ow z = cdS k)) q + ((if (decide (q % W + 1 < W) && (decide (ow q = cdS k) && decide (ow (q + 1) = cdS k))) = true then 1 else 0) + (if (decide (q + W < n) && (decide (ow q = cdS k) && decide (ow (q + W) = cdS k))) = true then 1 else 0))) = (hkP W n ow k q + hsP W n (fun z => decide (ow z = cdS k)) q) + ((smE (q % W + 1 < W) (ow q) (ow (q + 1)) k + (if (decide (q % W + 1 < W) && (decide (ow q = cdS k) && decide (ow (q + 1) = cdS k))) = true then 1 else 0)) + (smE (q + W < n) (ow q) (ow (q + W)) k + (if (decide (q + W < n) && (decide (ow q = cdS k) && decide (ow (q + W) = cdS k))) = true then 1 else 0)))
    rw [ih]
    omega
theorem hk_ht {W n : Nat} {ow : Nat → Int32} (ho : ∀ q, q < n → ∃ k, k < 7 ∧ ow q = cdS k) : ∀ q, q ≤ n → hdN W n ow q + hkP W n ow 7 q = htN W n q := by
  intro q
  induction q with
  | zero => intro _; rfl
  | succ q ih =>
    intro hq
    have i := ih (by omega)
    obtain ⟨k0, h0, e0⟩ := ho q (by omega)
    show (hdN W n ow q + (_ + _)) + hkP W n ow 7 (q + 1) = htN W n q + (_ + _)
    rw [hkP_s, smE_of h0 e0 7 (by decide), smE_of h0 e0 7 (by decide)]
    have key : ∀ (c : Prop) [Decidable c] (b : Int32), (if c ∧ ¬ ow q = b then 1 else 0) + (if c ∧ ow q = b ∧ k0 < 7 then 1 else 0) = (if c then 1 else 0) := fun c _ b => by
      by_cases hc : c
      · by_cases hb : ow q = b
        · rw [if_neg (fun z => z.2 hb), if_pos ⟨hc, hb, h0⟩, if_pos hc]
        · rw [if_pos ⟨hc, hb⟩, if_neg (fun z => hb z.2.1), if_pos hc]
      · rw [if_neg (fun z => hc z.1), if_neg (fun z => hc z.1), if_neg hc]
    have a1 := key (q % W + 1 < W) (ow (q + 1))
    have a2 := key (q + W < n) (ow (q + W))
    omega
theorem hl_hk {W H : Nat} {S : Nat → Int64} {ow : Nat → Int32} {L : Int64} {w : Int32} (w2 : 2 ≤ W) (w8 : W ≤ 8) (h8 : H ≤ 8) (hL : L = stO (fun i => decide (i % W = W - 1)) (W * H)) (hw : w = Int32.ofNat W) (p : PT S ow (W * H)) : ∀ k, k ≤ 7 → hlN L w S k = hkP W (W * H) ow k (W * H) := by
  intro k
  induction k with
  | zero => intro _; rfl
  | succ k ih =>
    intro hk
    show hlN L w S k + edC L w (S k) = hkP W (W * H) ow k (W * H) + _
    rw [ih (by omega), p.1 k (by omega), ed_hs w2 w8 h8 hL hw]
theorem ht_ck : ((List.range 9).all fun W => (List.range 9).all fun H => Nat.blt W 2 || (Nat.blt H 2 || (Nat.beq (htN W (W * H) (W * H)) (H * (W - 1) + W * (H - 1)) && decide (Int32.ofNat H * (Int32.ofNat W - Int32.ofInt 1) + Int32.ofNat W * (Int32.ofNat H - Int32.ofInt 1) = Int32.ofNat (H * (W - 1) + W * (H - 1)))))) = true := by decide +kernel
theorem ht_fin {W H : Nat} (w2 : 2 ≤ W) (w8 : W ≤ 8) (h2 : 2 ≤ H) (h8 : H ≤ 8) : htN W (W * H) (W * H) = H * (W - 1) + W * (H - 1) ∧ Int32.ofNat H * (Int32.ofNat W - Int32.ofInt 1) + Int32.ofNat W * (Int32.ofNat H - Int32.ofInt 1) = Int32.ofNat (H * (W - 1) + W * (H - 1)) := by
  have k := rg_all (rg_all ht_ck W (by omega)) H (by omega)
  simp only [Bool.or_eq_true, Bool.and_eq_true, decide_eq_true_eq] at k
  rcases k with k | k | k
  · have := Nat.le_of_ble_eq_true k; omega
  · have := Nat.le_of_ble_eq_true k; omega
  · exact ⟨Nat.eq_of_beq_eq_true k.1, k.2⟩
theorem s_hedge11_go {d : Nat} {h : sHp} {c : CF} {W H p : Nat} {S : Nat → Int64} {ow : Nat → Int32} (hd : 2 ≤ d) (F : FC h 5 c) (g : gdF c W H) (hp : h[p]? = some (.inl (1, 7, .inr (.inl S)))) (P : PT S ow (W * H)) : ∀ (f k : Nat) (o4 o5 : Option Value), k + f = 7 → sGo none 47 d 4 [some (.ref 5), some (.ref p), some (.int (Int32.ofNat (hlN (c.2.1 4) (c.1 0) S k))), some (.int (Int32.ofNat k)), o4, o5] [] h (fun r h' => h' = h ∧ r = some (.int (Int32.ofNat (hdN W (W * H) ow (W * H))))) := by
  have gd := g
  obtain ⟨g0, g1, w2, w8, h2, h8, -, -, g4, -⟩ := gd
  have e7 : (Int32.ofNat 7).toInt = ((7 : Nat) : Int) := rfl
  intro f
  induction f with
  | zero =>
    intro k o4 o5 hk
    have k7 : k = 7 := by omega
    subst k7
    have hl := hl_hk w2 w8 h8 g4 g0 P 7 (Nat.le_refl _)
    have hs := hk_ht (W := W) P.2 (W * H) (Nat.le_refl _)
    have hf := ht_fin w2 w8 h2 h8
    have hb := hlN_le (L := c.2.1 4) (w := c.1 0) (S := S) 7
    have hc := hdN_le (W := W) (n := W * H) (ow := ow) (W * H)
    have hn := wh_le8 w8 h8
    have hq := htN_le (W := W) (n := W * H) (W * H)
    rw [hf.1] at hq
    refine g_iload_n (i := 3) rfl rfl ?_
    refine g_aload_n (i := 1) rfl rfl ?_
    refine g_alen rfl hp (by decide) ?_
    refine g_icmp_ge 57 rfl rfl (fun _ => ?_) (fun hc => absurd hc (by exact fun z => z (Int32.le_refl _)))
    refine g_aload_n (i := 0) rfl rfl ?_
    refine g_getfield (v := .int (c.1 1)) rfl F.1 (by decide) rfl ?_
    refine g_aload_n (i := 0) rfl rfl ?_
    refine g_getfield (v := .int (c.1 0)) rfl F.1 (by decide) rfl ?_
    refine g_iconst (n := 1) rfl ?_
    refine g_isub rfl ?_
    refine g_imul rfl ?_
    refine g_aload_n (i := 0) rfl rfl ?_
    refine g_getfield (v := .int (c.1 0)) rfl F.1 (by decide) rfl ?_
    refine g_aload_n (i := 0) rfl rfl ?_
    refine g_getfield (v := .int (c.1 1)) rfl F.1 (by decide) rfl ?_
    refine g_iconst (n := 1) rfl ?_
    refine g_isub rfl ?_
    refine g_imul rfl ?_
    refine g_iadd rfl ?_
    refine g_iload_n (i := 2) rfl rfl ?_
    refine g_isub rfl ?_
    refine g_ireturn (ty := .int) rfl rfl rfl ?_
    refine ⟨rfl, congrArg (fun z => some (Value.int z)) ?_⟩
    show c.1 1 * (c.1 0 - Int32.ofInt 1) + c.1 0 * (c.1 1 - Int32.ofInt 1) - Int32.ofNat (hlN (c.2.1 4) (c.1 0) S 7) = _
    rw [g0] at hl hb ⊢
    rw [g1, hf.2]
    refine Int32.toInt_inj.mp ?_
    rw [i_sub (by rw [ofN_toInt (by omega), ofN_toInt (by omega)]; omega) (by rw [ofN_toInt (by omega), ofN_toInt (by omega)]; omega), ofN_toInt (by omega), ofN_toInt (by omega), ofN_toInt (by omega)]
    omega
  | succ f ih =>
    intro k o4 o5 hk
    have ek := ofN_toInt (n := k) (by omega)
    have hb := hlN_le (L := c.2.1 4) (w := c.1 0) (S := S) k
    have c1 := cnt_le ((S k &&& (c.2.1 4 ^^^ Int64.ofNat 18446744073709551615)) &&& (((S k).toUInt64 >>> ((Int32.ofInt 1).toInt64.toUInt64 &&& Int64.toUInt64 63)).toInt64))
    have c2 := cnt_le (S k &&& (((S k).toUInt64 >>> ((c.1 0).toInt64.toUInt64 &&& Int64.toUInt64 63)).toInt64))
    have ev : Int32.ofNat (hlN (c.2.1 4) (c.1 0) S k) + (Int32.ofNat (cnt ((S k &&& (c.2.1 4 ^^^ Int64.ofNat 18446744073709551615)) &&& (((S k).toUInt64 >>> ((Int32.ofInt 1).toInt64.toUInt64 &&& Int64.toUInt64 63)).toInt64))) + Int32.ofNat (cnt (S k &&& (((S k).toUInt64 >>> ((c.1 0).toInt64.toUInt64 &&& Int64.toUInt64 63)).toInt64)))) = Int32.ofNat (hlN (c.2.1 4) (c.1 0) S (k + 1)) := by
      rw [ofB_plus (by omega), ofB_plus (by omega)]
      rfl
    refine g_iload_n (i := 3) rfl rfl ?_
    refine g_aload_n (i := 1) rfl rfl ?_
    refine g_alen rfl hp (by decide) ?_
    refine g_icmp_ge 57 rfl rfl (fun hc => absurd hc (by rw [i_le, e7, ek]; omega)) (fun _ => ?_)
    refine g_aload_n (i := 1) rfl rfl ?_
    refine g_iload_n (i := 3) rfl rfl ?_
    refine g_laload (n := 7) (f := S) rfl hp (i_in (by omega) (by omega)) ?_
    rw [i_nat ek]
    refine g_lstore (i := 4) (L1 := [some (.ref 5), some (.ref p), some (.int (Int32.ofNat (hlN (c.2.1 4) (c.1 0) S k))), some (.int (Int32.ofNat k)), some (.long (S k)), none]) rfl (Nat.le_of_ble_eq_true rfl) rfl ?_
    refine g_iload_n (i := 2) rfl rfl ?_
    refine g_lload (i := 4) rfl rfl ?_
    refine g_aload_n (i := 0) rfl rfl ?_
    refine g_getfield (v := .long (c.2.1 4)) rfl F.1 (by decide) rfl ?_
    refine g_ldc2_w (j := 18446744073709551615) rfl ?_
    refine g_lxor rfl ?_
    refine g_land rfl ?_
    refine g_lload (i := 4) rfl rfl ?_
    refine g_iconst (n := 1) rfl ?_
    refine g_lushr rfl ?_
    refine g_land rfl ?_
    refine g_static1 (Qc := fun r h' => h' = h ∧ r = some (.int (Int32.ofNat (cnt ((((S k) &&& ((c.2.1 4) ^^^ (Int64.ofNat 18446744073709551615))) &&& (((S k).toUInt64 >>> ((Int32.ofInt 1).toInt64.toUInt64 &&& Int64.toUInt64 63)).toInt64))))))) rfl (by decide) rfl (Nat.le_of_ble_eq_true rfl) (s_bitCount (by omega)) (fun r h hq9 => ?_)
    obtain ⟨rfl, rfl⟩ := hq9
    refine g_lload (i := 4) rfl rfl ?_
    refine g_lload (i := 4) rfl rfl ?_
    refine g_aload_n (i := 0) rfl rfl ?_
    refine g_getfield (v := .int (c.1 0)) rfl F.1 (by decide) rfl ?_
    refine g_lushr rfl ?_
    refine g_land rfl ?_
    refine g_static1 (Qc := fun r h' => h' = h ∧ r = some (.int (Int32.ofNat (cnt (((S k) &&& (((S k).toUInt64 >>> ((c.1 0).toInt64.toUInt64 &&& Int64.toUInt64 63)).toInt64))))))) rfl (by decide) rfl (Nat.le_of_ble_eq_true rfl) (s_bitCount (by omega)) (fun r h hq9 => ?_)
    obtain ⟨rfl, rfl⟩ := hq9
    refine g_iadd rfl ?_
    refine g_iadd rfl ?_
    rw [ev]
    refine g_istore_n (i := 2) (L1 := [some (.ref 5), some (.ref p), some (.int (Int32.ofNat (hlN (c.2.1 4) (c.1 0) S (k + 1)))), some (.int (Int32.ofNat k)), some (.long (S k)), none]) rfl (Nat.le_of_ble_eq_true rfl) rfl ?_
    refine g_iinc (i := 3) (L1 := [some (.ref 5), some (.ref p), some (.int (Int32.ofNat (hlN (c.2.1 4) (c.1 0) S (k + 1)))), some (.int ((Int32.ofNat k) + Int32.ofInt 1)), some (.long (S k)), none]) rfl rfl rfl ?_
    rw [ofN_add (by omega)]
    refine g_goto 4 rfl rfl ?_
    exact ih (k + 1) _ _ (by omega)
theorem s_hedge11 {d : Nat} {h : sHp} {c : CF} {W H p : Nat} {S : Nat → Int64} {ow : Nat → Int32} (hd : 3 ≤ d) (F : FC h 5 c) (g : gdF c W H) (hp : h[p]? = some (.inl (1, 7, .inr (.inl S)))) (P : PT S ow (W * H)) : sDo d 47 [.ref 5, .ref p] h (fun r h' => h' = h ∧ r = some (.int (Int32.ofNat (hdN W (W * H) ow (W * H))))) := by
  refine sDo_of1 (nL := 6) (L := [some (.ref 5), some (.ref p), none, none, none, none]) (by omega) rfl rfl ?_
  refine g_iconst (n := 0) rfl ?_
  refine g_istore_n (i := 2) (L1 := [some (.ref 5), some (.ref p), some (.int (Int32.ofInt 0)), none, none, none]) rfl (Nat.le_of_ble_eq_true rfl) rfl ?_
  refine g_iconst (n := 0) rfl ?_
  refine g_istore_n (i := 3) (L1 := [some (.ref 5), some (.ref p), some (.int (Int32.ofInt 0)), some (.int (Int32.ofInt 0)), none, none]) rfl (Nat.le_of_ble_eq_true rfl) rfl ?_
  exact s_hedge11_go (d := d - 1) (by omega) F g hp P 7 0 _ _ (by decide)
theorem s_hedge12_go {d : Nat} {h : sHp} {m : MF} {W H : Nat} (M : MC h m) (g : gdM m.1 W H) : ∀ (f k : Nat), k + f = W * H → sGo none 220 d 4 [some (.ref 60), some (.int (Int32.ofNat (hdN W (W * H) m.2.2.1 k))), some (.int (Int32.ofNat k))] [] h (fun r h' => h' = h ∧ r = some (.int (Int32.ofNat (hdN W (W * H) m.2.2.1 (W * H))))) := by
  have hr := M.1
  have gd := g
  obtain ⟨gw, gh, w2, w8, h2, h8⟩ := gd
  have hn := gdM_n g
  have hw0 : (m.1 0).toInt = ((W : Nat) : Int) := by rw [gw]; exact ofN_toInt (by omega)
  have hw1 : (m.1 1).toInt = ((H : Nat) : Int) := by rw [gh]; exact ofN_toInt (by omega)
  have hwn : (m.1 0 * m.1 1).toInt = ((W * H : Nat) : Int) := n_mul hw0 hw1 (by omega)
  intro f
  induction f with
  | zero =>
    intro k hk
    have ek := ofN_toInt (n := k) (by omega)
    have eW : W * H = k := by omega
    refine g_iload_n (i := 2) rfl rfl ?_
    refine g_aload_n (i := 0) rfl rfl ?_
    refine g_getfield (v := .int (m.1 0)) rfl hr (by decide) rfl ?_
    refine g_aload_n (i := 0) rfl rfl ?_
    refine g_getfield (v := .int (m.1 1)) rfl hr (by decide) rfl ?_
    refine g_imul rfl ?_
    refine g_icmp_ge 99 rfl rfl (fun _ => ?_) (fun hc => absurd hc (by rw [i_le, hwn, ek]; omega))
    refine g_iload_n (i := 1) rfl rfl ?_
    refine g_ireturn (ty := .int) rfl rfl rfl ?_
    exact ⟨rfl, by rw [eW]⟩
  | succ f ih =>
    intro k hk
    have ek := ofN_toInt (n := k) (by omega)
    have hb := hdN_le (W := W) (n := W * H) (ow := m.2.2.1) k
    have nx : k % W + 1 < W → k + 1 < W * H := fun z => nxt_in W (by omega) H (by omega) k (by omega) (by omega) z
    have hmd := Nat.mod_lt k (show 0 < W by omega)
    refine g_iload_n (i := 2) rfl rfl ?_
    refine g_aload_n (i := 0) rfl rfl ?_
    refine g_getfield (v := .int (m.1 0)) rfl hr (by decide) rfl ?_
    refine g_aload_n (i := 0) rfl rfl ?_
    refine g_getfield (v := .int (m.1 1)) rfl hr (by decide) rfl ?_
    refine g_imul rfl ?_
    refine g_icmp_ge 99 rfl rfl (fun hc => absurd hc (by rw [i_le, hwn, ek]; omega)) (fun _ => ?_)
    refine g_iload_n (i := 2) rfl rfl ?_
    refine g_aload_n (i := 0) rfl rfl ?_
    refine g_getfield (v := .int (m.1 0)) rfl hr (by decide) rfl ?_
    refine g_irem rfl (by intro z; rw [z] at hw0; have e : (0 : Int32).toInt = 0 := rfl; omega) ?_
    have t_1 : (((Int32.ofNat k) - (Int32.ofNat k) / (m.1 0) * (m.1 0))).toInt = ((k % W : Nat) : Int) := n_rem (X := k) (Y := W) ek (show _ = ((W : Nat) : Int) from hw0) (by omega)
    refine g_iconst (n := 1) rfl ?_
    have k_2 : (Int32.ofInt 1).toInt = 1 := rfl
    refine g_iadd rfl ?_
    have t_3 : (((Int32.ofNat k) - (Int32.ofNat k) / (m.1 0) * (m.1 0)) + (Int32.ofInt 1)).toInt = ((k % W + 1 : Nat) : Int) := by rw [i_add (by rw [t_1, k_2]; omega) (by rw [t_1, k_2]; omega), t_1, k_2]; omega
    refine g_aload_n (i := 0) rfl rfl ?_
    refine g_getfield (v := .int (m.1 0)) rfl hr (by decide) rfl ?_
    refine g_icmp_ge 52 rfl rfl (fun c_4 => ?_) (fun c_4 => ?_)
    · skip
      rw [i_le, t_3, hw0] at c_4
      refine g_iload_n (i := 2) rfl rfl ?_
      refine g_aload_n (i := 0) rfl rfl ?_
      refine g_getfield (v := .int (m.1 0)) rfl hr (by decide) rfl ?_
      refine g_iadd rfl ?_
      have t_5 : ((Int32.ofNat k) + (m.1 0)).toInt = ((k + W : Nat) : Int) := by rw [i_add (by rw [ek, hw0]; omega) (by rw [ek, hw0]; omega), ek, hw0]; omega
      refine g_aload_n (i := 0) rfl rfl ?_
      refine g_getfield (v := .int (m.1 0)) rfl hr (by decide) rfl ?_
      refine g_aload_n (i := 0) rfl rfl ?_
      refine g_getfield (v := .int (m.1 1)) rfl hr (by decide) rfl ?_
      refine g_imul rfl ?_
      refine g_icmp_ge 93 rfl rfl (fun c_6 => ?_) (fun c_6 => ?_)
      · skip
        rw [i_le, t_5, hwn] at c_6
        refine g_iinc (i := 2) (L1 := [some (.ref 60), some (.int (Int32.ofNat (hdN W (W * H) m.2.2.1 k))), some (.int ((Int32.ofNat k) + Int32.ofInt 1))]) rfl rfl rfl ?_
        rw [ofN_add (by omega)]
        refine g_goto 4 rfl rfl ?_
        have e : hdN W (W * H) m.2.2.1 (k + 1) = hdN W (W * H) m.2.2.1 k := by
          show hdN W (W * H) m.2.2.1 k + (_ + _) = _
          rw [if_neg (fun z => absurd z.1 (by omega)), if_neg (fun z => absurd z.1 (by omega))] <;> omega
        have key := ih (k + 1) (by omega)
        rw [e] at key
        exact key
      · skip
        rw [i_le, t_5, hwn] at c_6
        refine g_aload_n (i := 0) rfl rfl ?_
        refine g_getfield (v := .ref 63) rfl hr (by decide) rfl ?_
        refine g_iload_n (i := 2) rfl rfl ?_
        refine g_iaload (n := 64) (f := m.2.2.1) rfl M.2.2.1 (i_in (by omega) (by omega)) ?_
        rw [i_nat ek]
        refine g_aload_n (i := 0) rfl rfl ?_
        refine g_getfield (v := .ref 63) rfl hr (by decide) rfl ?_
        refine g_iload_n (i := 2) rfl rfl ?_
        refine g_aload_n (i := 0) rfl rfl ?_
        refine g_getfield (v := .int (m.1 0)) rfl hr (by decide) rfl ?_
        refine g_iadd rfl ?_
        have t_7 : ((Int32.ofNat k) + (m.1 0)).toInt = ((k + W : Nat) : Int) := by rw [i_add (by rw [ek, hw0]; omega) (by rw [ek, hw0]; omega), ek, hw0]; omega
        refine g_iaload (n := 64) (f := m.2.2.1) rfl M.2.2.1 (i_in (by omega) (by omega)) ?_
        rw [i_nat t_7]
        refine g_icmp_eq 93 rfl rfl (fun c_8 => ?_) (fun c_8 => ?_)
        · skip
          refine g_iinc (i := 2) (L1 := [some (.ref 60), some (.int (Int32.ofNat (hdN W (W * H) m.2.2.1 k))), some (.int ((Int32.ofNat k) + Int32.ofInt 1))]) rfl rfl rfl ?_
          rw [ofN_add (by omega)]
          refine g_goto 4 rfl rfl ?_
          have e : hdN W (W * H) m.2.2.1 (k + 1) = hdN W (W * H) m.2.2.1 k := by
            show hdN W (W * H) m.2.2.1 k + (_ + _) = _
            rw [if_neg (fun z => absurd z.1 (by omega)), if_neg (fun z => z.2 c_8)] <;> omega
          have key := ih (k + 1) (by omega)
          rw [e] at key
          exact key
        · skip
          refine g_iinc (i := 1) (L1 := [some (.ref 60), some (.int ((Int32.ofNat (hdN W (W * H) m.2.2.1 k)) + Int32.ofInt 1)), some (.int (Int32.ofNat k))]) rfl rfl rfl ?_
          rw [ofN_add (by omega)]
          refine g_iinc (i := 2) (L1 := [some (.ref 60), some (.int (Int32.ofNat (hdN W (W * H) m.2.2.1 k + 1))), some (.int ((Int32.ofNat k) + Int32.ofInt 1))]) rfl rfl rfl ?_
          rw [ofN_add (by omega)]
          refine g_goto 4 rfl rfl ?_
          have e : hdN W (W * H) m.2.2.1 (k + 1) = hdN W (W * H) m.2.2.1 k + 1 := by
            show hdN W (W * H) m.2.2.1 k + (_ + _) = _
            rw [if_neg (fun z => absurd z.1 (by omega)), if_pos ⟨by omega, c_8⟩] <;> omega
          have key := ih (k + 1) (by omega)
          rw [e] at key
          exact key
    · skip
      rw [i_le, t_3, hw0] at c_4
      have hnx := nx (by omega)
      refine g_aload_n (i := 0) rfl rfl ?_
      refine g_getfield (v := .ref 63) rfl hr (by decide) rfl ?_
      refine g_iload_n (i := 2) rfl rfl ?_
      refine g_iaload (n := 64) (f := m.2.2.1) rfl M.2.2.1 (i_in (by omega) (by omega)) ?_
      rw [i_nat ek]
      refine g_aload_n (i := 0) rfl rfl ?_
      refine g_getfield (v := .ref 63) rfl hr (by decide) rfl ?_
      refine g_iload_n (i := 2) rfl rfl ?_
      refine g_iconst (n := 1) rfl ?_
      refine g_iadd rfl ?_
      have t_9 : ((Int32.ofNat k) + (Int32.ofInt 1)).toInt = ((k + 1 : Nat) : Int) := by rw [i_add (by rw [ek, k_2]; omega) (by rw [ek, k_2]; omega), ek, k_2]; omega
      refine g_iaload (n := 64) (f := m.2.2.1) rfl M.2.2.1 (i_in (by omega) (by omega)) ?_
      rw [i_nat t_9]
      refine g_icmp_eq 52 rfl rfl (fun c_10 => ?_) (fun c_10 => ?_)
      · skip
        refine g_iload_n (i := 2) rfl rfl ?_
        refine g_aload_n (i := 0) rfl rfl ?_
        refine g_getfield (v := .int (m.1 0)) rfl hr (by decide) rfl ?_
        refine g_iadd rfl ?_
        have t_11 : ((Int32.ofNat k) + (m.1 0)).toInt = ((k + W : Nat) : Int) := by rw [i_add (by rw [ek, hw0]; omega) (by rw [ek, hw0]; omega), ek, hw0]; omega
        refine g_aload_n (i := 0) rfl rfl ?_
        refine g_getfield (v := .int (m.1 0)) rfl hr (by decide) rfl ?_
        refine g_aload_n (i := 0) rfl rfl ?_
        refine g_getfield (v := .int (m.1 1)) rfl hr (by decide) rfl ?_
        refine g_imul rfl ?_
        refine g_icmp_ge 93 rfl rfl (fun c_12 => ?_) (fun c_12 => ?_)
        · skip
          rw [i_le, t_11, hwn] at c_12
          refine g_iinc (i := 2) (L1 := [some (.ref 60), some (.int (Int32.ofNat (hdN W (W * H) m.2.2.1 k))), some (.int ((Int32.ofNat k) + Int32.ofInt 1))]) rfl rfl rfl ?_
          rw [ofN_add (by omega)]
          refine g_goto 4 rfl rfl ?_
          have e : hdN W (W * H) m.2.2.1 (k + 1) = hdN W (W * H) m.2.2.1 k := by
            show hdN W (W * H) m.2.2.1 k + (_ + _) = _
            rw [if_neg (fun z => z.2 c_10), if_neg (fun z => absurd z.1 (by omega))] <;> omega
          have key := ih (k + 1) (by omega)
          rw [e] at key
          exact key
        · skip
          rw [i_le, t_11, hwn] at c_12
          refine g_aload_n (i := 0) rfl rfl ?_
          refine g_getfield (v := .ref 63) rfl hr (by decide) rfl ?_
          refine g_iload_n (i := 2) rfl rfl ?_
          refine g_iaload (n := 64) (f := m.2.2.1) rfl M.2.2.1 (i_in (by omega) (by omega)) ?_
          rw [i_nat ek]
          refine g_aload_n (i := 0) rfl rfl ?_
          refine g_getfield (v := .ref 63) rfl hr (by decide) rfl ?_
          refine g_iload_n (i := 2) rfl rfl ?_
          refine g_aload_n (i := 0) rfl rfl ?_
          refine g_getfield (v := .int (m.1 0)) rfl hr (by decide) rfl ?_
          refine g_iadd rfl ?_
          have t_13 : ((Int32.ofNat k) + (m.1 0)).toInt = ((k + W : Nat) : Int) := by rw [i_add (by rw [ek, hw0]; omega) (by rw [ek, hw0]; omega), ek, hw0]; omega
          refine g_iaload (n := 64) (f := m.2.2.1) rfl M.2.2.1 (i_in (by omega) (by omega)) ?_
          rw [i_nat t_13]
          refine g_icmp_eq 93 rfl rfl (fun c_14 => ?_) (fun c_14 => ?_)
          · skip
            refine g_iinc (i := 2) (L1 := [some (.ref 60), some (.int (Int32.ofNat (hdN W (W * H) m.2.2.1 k))), some (.int ((Int32.ofNat k) + Int32.ofInt 1))]) rfl rfl rfl ?_
            rw [ofN_add (by omega)]
            refine g_goto 4 rfl rfl ?_
            have e : hdN W (W * H) m.2.2.1 (k + 1) = hdN W (W * H) m.2.2.1 k := by
              show hdN W (W * H) m.2.2.1 k + (_ + _) = _
              rw [if_neg (fun z => z.2 c_10), if_neg (fun z => z.2 c_14)] <;> omega
            have key := ih (k + 1) (by omega)
            rw [e] at key
            exact key
          · skip
            refine g_iinc (i := 1) (L1 := [some (.ref 60), some (.int ((Int32.ofNat (hdN W (W * H) m.2.2.1 k)) + Int32.ofInt 1)), some (.int (Int32.ofNat k))]) rfl rfl rfl ?_
            rw [ofN_add (by omega)]
            refine g_iinc (i := 2) (L1 := [some (.ref 60), some (.int (Int32.ofNat (hdN W (W * H) m.2.2.1 k + 1))), some (.int ((Int32.ofNat k) + Int32.ofInt 1))]) rfl rfl rfl ?_
            rw [ofN_add (by omega)]
            refine g_goto 4 rfl rfl ?_
            have e : hdN W (W * H) m.2.2.1 (k + 1) = hdN W (W * H) m.2.2.1 k + 1 := by
              show hdN W (W * H) m.2.2.1 k + (_ + _) = _
              rw [if_neg (fun z => z.2 c_10), if_pos ⟨by omega, c_14⟩] <;> omega
            have key := ih (k + 1) (by omega)
            rw [e] at key
            exact key
      · skip
        refine g_iinc (i := 1) (L1 := [some (.ref 60), some (.int ((Int32.ofNat (hdN W (W * H) m.2.2.1 k)) + Int32.ofInt 1)), some (.int (Int32.ofNat k))]) rfl rfl rfl ?_
        rw [ofN_add (by omega)]
        refine g_iload_n (i := 2) rfl rfl ?_
        refine g_aload_n (i := 0) rfl rfl ?_
        refine g_getfield (v := .int (m.1 0)) rfl hr (by decide) rfl ?_
        refine g_iadd rfl ?_
        have t_15 : ((Int32.ofNat k) + (m.1 0)).toInt = ((k + W : Nat) : Int) := by rw [i_add (by rw [ek, hw0]; omega) (by rw [ek, hw0]; omega), ek, hw0]; omega
        refine g_aload_n (i := 0) rfl rfl ?_
        refine g_getfield (v := .int (m.1 0)) rfl hr (by decide) rfl ?_
        refine g_aload_n (i := 0) rfl rfl ?_
        refine g_getfield (v := .int (m.1 1)) rfl hr (by decide) rfl ?_
        refine g_imul rfl ?_
        refine g_icmp_ge 93 rfl rfl (fun c_16 => ?_) (fun c_16 => ?_)
        · skip
          rw [i_le, t_15, hwn] at c_16
          refine g_iinc (i := 2) (L1 := [some (.ref 60), some (.int (Int32.ofNat (hdN W (W * H) m.2.2.1 k + 1))), some (.int ((Int32.ofNat k) + Int32.ofInt 1))]) rfl rfl rfl ?_
          rw [ofN_add (by omega)]
          refine g_goto 4 rfl rfl ?_
          have e : hdN W (W * H) m.2.2.1 (k + 1) = hdN W (W * H) m.2.2.1 k + 1 := by
            show hdN W (W * H) m.2.2.1 k + (_ + _) = _
            rw [if_pos ⟨by omega, c_10⟩, if_neg (fun z => absurd z.1 (by omega))] <;> omega
          have key := ih (k + 1) (by omega)
          rw [e] at key
          exact key
        · skip
          rw [i_le, t_15, hwn] at c_16
          refine g_aload_n (i := 0) rfl rfl ?_
          refine g_getfield (v := .ref 63) rfl hr (by decide) rfl ?_
          refine g_iload_n (i := 2) rfl rfl ?_
          refine g_iaload (n := 64) (f := m.2.2.1) rfl M.2.2.1 (i_in (by omega) (by omega)) ?_
          rw [i_nat ek]
          refine g_aload_n (i := 0) rfl rfl ?_
          refine g_getfield (v := .ref 63) rfl hr (by decide) rfl ?_
          refine g_iload_n (i := 2) rfl rfl ?_
          refine g_aload_n (i := 0) rfl rfl ?_
          refine g_getfield (v := .int (m.1 0)) rfl hr (by decide) rfl ?_
          refine g_iadd rfl ?_
          have t_17 : ((Int32.ofNat k) + (m.1 0)).toInt = ((k + W : Nat) : Int) := by rw [i_add (by rw [ek, hw0]; omega) (by rw [ek, hw0]; omega), ek, hw0]; omega
          refine g_iaload (n := 64) (f := m.2.2.1) rfl M.2.2.1 (i_in (by omega) (by omega)) ?_
          rw [i_nat t_17]
          refine g_icmp_eq 93 rfl rfl (fun c_18 => ?_) (fun c_18 => ?_)
          · skip
            refine g_iinc (i := 2) (L1 := [some (.ref 60), some (.int (Int32.ofNat (hdN W (W * H) m.2.2.1 k + 1))), some (.int ((Int32.ofNat k) + Int32.ofInt 1))]) rfl rfl rfl ?_
            rw [ofN_add (by omega)]
            refine g_goto 4 rfl rfl ?_
            have e : hdN W (W * H) m.2.2.1 (k + 1) = hdN W (W * H) m.2.2.1 k + 1 := by
              show hdN W (W * H) m.2.2.1 k + (_ + _) = _
              rw [if_pos ⟨by omega, c_10⟩, if_neg (fun z => z.2 c_18)] <;> omega
            have key := ih (k + 1) (by omega)
            rw [e] at key
            exact key
          · skip
            refine g_iinc (i := 1) (L1 := [some (.ref 60), some (.int ((Int32.ofNat (hdN W (W * H) m.2.2.1 k + 1)) + Int32.ofInt 1)), some (.int (Int32.ofNat k))]) rfl rfl rfl ?_
            rw [ofN_add (by omega)]
            refine g_iinc (i := 2) (L1 := [some (.ref 60), some (.int (Int32.ofNat (hdN W (W * H) m.2.2.1 k + 1 + 1))), some (.int ((Int32.ofNat k) + Int32.ofInt 1))]) rfl rfl rfl ?_
            rw [ofN_add (by omega)]
            refine g_goto 4 rfl rfl ?_
            have e : hdN W (W * H) m.2.2.1 (k + 1) = hdN W (W * H) m.2.2.1 k + 1 + 1 := by
              show hdN W (W * H) m.2.2.1 k + (_ + _) = _
              rw [if_pos ⟨by omega, c_10⟩, if_pos ⟨by omega, c_18⟩] <;> omega
            have key := ih (k + 1) (by omega)
            rw [e] at key
            exact key
theorem s_hedge12 {d : Nat} {h : sHp} {m : MF} {W H : Nat} (hd : 1 ≤ d) (M : MC h m) (g : gdM m.1 W H) : sDo d 220 [.ref 60] h (fun r h' => h' = h ∧ r = some (.int (Int32.ofNat (hdN W (W * H) m.2.2.1 (W * H))))) := by
  refine sDo_of1 (nL := 3) (L := [some (.ref 60), none, none]) (by omega) rfl rfl ?_
  refine g_iconst (n := 0) rfl ?_
  refine g_istore_n (i := 1) (L1 := [some (.ref 60), some (.int (Int32.ofInt 0)), none]) rfl (Nat.le_of_ble_eq_true rfl) rfl ?_
  refine g_iconst (n := 0) rfl ?_
  refine g_istore_n (i := 2) (L1 := [some (.ref 60), some (.int (Int32.ofInt 0)), some (.int (Int32.ofInt 0))]) rfl (Nat.le_of_ble_eq_true rfl) rfl ?_
  exact s_hedge12_go (d := d - 1) M g (W * H) 0 (Nat.zero_add _)
