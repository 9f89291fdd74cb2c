/-! ===== the class's field: become ===== -/
def cpL (a b : Nat → Int64) (k : Nat) : Nat → Int64 := fun i => if i < k then a i else b i
theorem cpL_0 (a b : Nat → Int64) : cpL a b 0 = b := funext fun i => if_neg (Nat.not_lt_zero i)
theorem cpL_s (a b : Nat → Int64) (k : Nat) : vp_updL (cpL a b k) k (a k) = cpL a b (k + 1) := funext fun i => by
  unfold vp_updL cpL
  by_cases h : i = k
  · rw [if_pos h, if_pos (show i < k + 1 by omega), h]
  · rw [if_neg h]
    by_cases h2 : i < k
    · rw [if_pos h2, if_pos (show i < k + 1 by omega)]
    · rw [if_neg h2, if_neg (show ¬ i < k + 1 by omega)]
def cpI (a b : Nat → Int32) (k : Nat) : Nat → Int32 := fun i => if i < k then a i else b i
theorem cpI_0 (a b : Nat → Int32) : cpI a b 0 = b := funext fun i => if_neg (Nat.not_lt_zero i)
theorem cpI_s (a b : Nat → Int32) (k : Nat) : upd (cpI a b k) k (a k) = cpI a b (k + 1) := funext fun i => by
  unfold upd cpI
  by_cases h : i = k
  · rw [if_pos h, if_pos (show i < k + 1 by omega), h]
  · rw [if_neg h]
    by_cases h2 : i < k
    · rw [if_pos h2, if_pos (show i < k + 1 by omega)]
    · rw [if_neg h2, if_neg (show ¬ i < k + 1 by omega)]
theorem FC_fr {h h' : sHp} {p q : Nat} {c : CF} (F : FC h q c) (E : fE p h h') (hd : q + 10 < p ∨ p + 10 < q) : FC h' q c := by
  obtain ⟨a0, a1, a2, ⟨f, a3, a4⟩, a5, a6, a7⟩ := F
  have e := E.2
  exact ⟨(e q (by omega)).trans a0, (e _ (by omega)).trans a1, (e _ (by omega)).trans a2, ⟨f, (e _ (by omega)).trans a3, a4⟩, fun k hk => (e _ (by omega)).trans (a5 k hk), (e _ (by omega)).trans a6, (e _ (by omega)).trans a7⟩
/-- what a field is once it has become another: its ints and longs first -/
def bcI (a b : Nat → Int32) : Nat → Int32 := (upd (upd (upd (upd (upd (upd (upd b 0 (a 0)) 1 (a 1)) 7 (a 7)) 8 (a 8)) 9 (a 9)) 10 (a 10)) 11 (a 11))
def bcG (a b : Nat → Int64) : Nat → Int64 := (vp_updL (vp_updL (vp_updL (vp_updL (vp_updL b 2 (a 2)) 3 (a 3)) 4 (a 4)) 5 (a 5)) 6 (a 6))
def bcW (a b : Nat → Nat → Int32) (k : Nat) : Nat → Nat → Int32 := fun i => if i < k then cpI (a i) (b i) 6 else b i
def cfBecome (a b : CF) : CF := (bcI a.1 b.1, bcG a.2.1 b.2.1, cpL a.2.2.1 b.2.2.1 6, cpI a.2.2.2.1 b.2.2.2.1 5, bcW a.2.2.2.2.1 b.2.2.2.2.1 5, cpI a.2.2.2.2.2.1 b.2.2.2.2.2.1 5, cpL a.2.2.2.2.2.2 b.2.2.2.2.2.2 7)
/-- the third loop of become, inner -/
theorem s_bec_in {d : Nat} {h : sHp} {p q K : Nat} {Ip Iq : Nat → Int32} {Gp Gq : Nat → Int64} {fp fq : Nat → Option Nat} {wp wq : Nat → Int32} {Q : Option Value → sHp → Prop} (a0 : h[p]? = some (fO p Ip Gp)) (b0 : h[q]? = some (fO q Iq Gq)) (a3 : h[p + 3]? = some (.inl (5, 5, .inr (.inr (.inr (.inr fp)))))) (a4 : ∀ k, k < 5 → fp k = some (p + 4 + k)) (b3 : h[q + 3]? = some (.inl (5, 5, .inr (.inr (.inr (.inr fq)))))) (b4 : ∀ k, k < 5 → fq k = some (q + 4 + k)) (hd : q + 10 < p ∨ p + 10 < q) (hK : K < 5) (a5 : h[p + 4 + K]? = some (.inl (0, 6, .inl wp))) (b5 : h[q + 4 + K]? = some (.inl (0, 6, .inl wq))) (hQ : ∀ x : Int32, sGo none 18 d 209 [some (.ref p), some (.ref q), some (.int (Int32.ofNat K)), some (.int x)] [] (h.set (p + 4 + K) (.inl (0, 6, .inl (cpI wq wp 6)))) Q) : ∀ (N j : Nat), j ≤ 6 → 6 - j < N → sGo none 18 d 181 [some (.ref p), some (.ref q), some (.int (Int32.ofNat K)), some (.int (Int32.ofNat j))] [] (h.set (p + 4 + K) (.inl (0, 6, .inl (cpI wq wp j)))) Q := by
  have eK := ofN_toInt (n := K) (by omega)
  have e6 : (Int8.ofInt 6).toInt32.toInt = 6 := rfl
  have fP : va_rf (fp (Int32.ofNat K).toNatClampNeg) = .ref (p + 4 + K) := by rw [i_nat eK, a4 K hK]; rfl
  have fQ : va_rf (fq (Int32.ofNat K).toNatClampNeg) = .ref (q + 4 + K) := by rw [i_nat eK, b4 K hK]; rfl
  intro N
  induction N with
  | zero => intro j _ hl; omega
  | succ N ih =>
    intro j hj hl
    have ej := ofN_toInt (n := j) (by omega)
    have c0 : (h.set (p + 4 + K) (.inl (0, 6, .inl (cpI wq wp j))))[p]? = some (fO p Ip Gp) := by rw [s_set_ne (by omega)]; exact a0
    have d0 : (h.set (p + 4 + K) (.inl (0, 6, .inl (cpI wq wp j))))[q]? = some (fO q Iq Gq) := by rw [s_set_ne (by omega)]; exact b0
    have c3 : (h.set (p + 4 + K) (.inl (0, 6, .inl (cpI wq wp j))))[p + 3]? = some (.inl (5, 5, .inr (.inr (.inr (.inr fp))))) := by rw [s_set_ne (by omega)]; exact a3
    have d3 : (h.set (p + 4 + K) (.inl (0, 6, .inl (cpI wq wp j))))[q + 3]? = some (.inl (5, 5, .inr (.inr (.inr (.inr fq))))) := by rw [s_set_ne (by omega)]; exact b3
    refine g_iload_n (i := 3) rfl rfl ?_
    refine g_bipush (n := 6) rfl ?_
    refine g_icmp_ge 209 rfl rfl (fun hc => ?_) (fun hc => ?_)
    · skip
      rw [i_le, e6, ej] at hc
      have hj6 : j = 6 := by omega
      rw [hj6]
      exact hQ _
    · skip
      rw [i_le, e6, ej] at hc
      refine g_aload_n (i := 0) rfl rfl ?_
      refine g_getfield (v := .ref (p + 3)) rfl c0 (by decide) rfl ?_
      refine g_iload_n (i := 2) rfl rfl ?_
      refine g_aaload rfl c3 (by decide) (i_in (by omega) (by omega)) ?_
      rw [fP]
      refine g_iload_n (i := 3) rfl rfl ?_
      refine g_aload_n (i := 1) rfl rfl ?_
      refine g_getfield (v := .ref (q + 3)) rfl d0 (by decide) rfl ?_
      refine g_iload_n (i := 2) rfl rfl ?_
      refine g_aaload rfl d3 (by decide) (i_in (by omega) (by omega)) ?_
      rw [fQ]
      refine g_iload_n (i := 3) rfl rfl ?_
      refine g_iaload (n := 6) (f := wq) rfl (by rw [s_set_ne (by omega)]; exact b5) (i_in (by omega) (by omega)) ?_
      rw [i_nat ej]
      refine g_iastore (h1 := h.set (p + 4 + K) (.inl (0, 6, .inl (cpI wq wp (j + 1))))) rfl (s_set_eq a5) (i_in (by omega) (by omega)) (by rw [i_nat ej, List.set_set]; exact congrArg (fun e => h.set (p + 4 + K) (.inl (0, 6, .inl e))) (cpI_s wq wp j)) ?_
      refine g_iinc (i := 3) (L1 := [some (.ref p), some (.ref q), some (.int (Int32.ofNat K)), some (.int ((Int32.ofNat j) + Int32.ofInt 1))]) rfl rfl rfl ?_
      rw [ofN_add (by omega)]
      refine g_goto 181 rfl rfl ?_
      exact ih (j + 1) (by omega) (by omega)
theorem s_bec_3 {d : Nat} {h0 : sHp} {p q : Nat} {cq : CF} {Ip : Nat → Int32} {Gp so : Nat → Int64} {sh : Nat → Int32} {wo : Nat → Nat → Int32} {fo : Nat → Int32} {ow : Nat → Int64} (hd : q + 10 < p ∨ p + 10 < q) (fb : ∀ k, k < 5 → cq.2.2.2.2.2.1 k = 0 ∨ cq.2.2.2.2.2.1 k = 1) : ∀ (N k : Nat) (h : sHp) (o3 : Option Value), k ≤ 5 → 5 - k < N → FC h q cq → FC h p (Ip, Gp, so, cpI cq.2.2.2.1 sh k, bcW cq.2.2.2.2.1 wo k, cpI cq.2.2.2.2.2.1 fo k, ow) → fE p h0 h → sGo none 18 d 150 [some (.ref p), some (.ref q), some (.int (Int32.ofNat k)), o3] [] h (fun r h' => r = none ∧ FC h' p (Ip, Gp, so, cpI cq.2.2.2.1 sh 5, bcW cq.2.2.2.2.1 wo 5, cpI cq.2.2.2.2.2.1 fo 5, ow) ∧ fE p h0 h') := by
  have e5 : (Int32.ofInt 5).toInt = 5 := rfl
  intro N
  induction N with
  | zero => intro k h o3 _ hl; omega
  | succ N ih =>
    intro k h o3 hk hl Fq Fp E
    have ek := ofN_toInt (n := k) (by omega)
    refine g_iload_n (i := 2) rfl rfl ?_
    refine g_iconst (n := 5) rfl ?_
    refine g_icmp_ge 215 rfl rfl (fun hc => ?_) (fun hc => ?_)
    · skip
      rw [i_le, e5, ek] at hc
      have hk5 : k = 5 := by omega
      subst hk5
      refine g_return rfl rfl ?_
      exact ⟨rfl, Fp, E⟩
    · skip
      rw [i_le, e5, ek] at hc
      refine g_aload_n (i := 0) rfl rfl ?_
      refine g_getfield (v := .ref (p + 2)) rfl Fp.1 (by decide) rfl ?_
      refine g_iload_n (i := 2) rfl rfl ?_
      refine g_aload_n (i := 1) rfl rfl ?_
      refine g_getfield (v := .ref (q + 2)) rfl Fq.1 (by decide) rfl ?_
      refine g_iload_n (i := 2) rfl rfl ?_
      refine g_iaload (n := 5) (f := cq.2.2.2.1) rfl Fq.2.2.1 (i_in (by omega) (by omega)) ?_
      rw [i_nat ek]
      refine g_iastore (h1 := h.set (p + 2) (.inl (0, 5, .inl (cpI cq.2.2.2.1 sh (k + 1))))) rfl Fp.2.2.1 (i_in (by omega) (by omega)) (by rw [i_nat ek]; exact congrArg (fun e => h.set (p + 2) (.inl (0, 5, .inl e))) (cpI_s _ _ k)) ?_
      have F1 := FC_2 (sh := cpI cq.2.2.2.1 sh (k + 1)) Fp
      have E1 : fE p h0 (h.set (p + 2) (.inl (0, 5, .inl (cpI cq.2.2.2.1 sh (k + 1))))) := fE_set E (by omega) (by omega)
      have Q1 : FC (h.set (p + 2) (.inl (0, 5, .inl (cpI cq.2.2.2.1 sh (k + 1))))) q cq := FC_out Fq (by omega)
      generalize h.set (p + 2) (.inl (0, 5, .inl (cpI cq.2.2.2.1 sh (k + 1)))) = h1 at F1 E1 Q1
      refine g_aload_n (i := 0) rfl rfl ?_
      refine g_getfield (v := .ref (p + 9)) rfl F1.1 (by decide) rfl ?_
      refine g_iload_n (i := 2) rfl rfl ?_
      refine g_aload_n (i := 1) rfl rfl ?_
      refine g_getfield (v := .ref (q + 9)) rfl Q1.1 (by decide) rfl ?_
      refine g_iload_n (i := 2) rfl rfl ?_
      refine g_baload (n := 5) (f := cq.2.2.2.2.2.1) rfl Q1.2.2.2.2.2.1 (i_in (by omega) (by omega)) ?_
      rw [i_nat ek]
      refine g_bastore (h1 := h1.set (p + 9) (.inl (2, 5, .inl (cpI cq.2.2.2.2.2.1 fo (k + 1))))) rfl F1.2.2.2.2.2.1 (fb k (by omega)) (i_in (by omega) (by omega)) (by rw [i_nat ek]; exact congrArg (fun e => h1.set (p + 9) (.inl (2, 5, .inl e))) (cpI_s _ _ k)) ?_
      have F2 := FC_9 (fo := cpI cq.2.2.2.2.2.1 fo (k + 1)) F1
      have E2 : fE p h0 (h1.set (p + 9) (.inl (2, 5, .inl (cpI cq.2.2.2.2.2.1 fo (k + 1))))) := fE_set E1 (by omega) (by omega)
      have Q2 : FC (h1.set (p + 9) (.inl (2, 5, .inl (cpI cq.2.2.2.2.2.1 fo (k + 1))))) q cq := FC_out Q1 (by omega)
      generalize h1.set (p + 9) (.inl (2, 5, .inl (cpI cq.2.2.2.2.2.1 fo (k + 1)))) = h2 at F2 E2 Q2
      have F2c := F2
      have Q2c := Q2
      obtain ⟨a0, -, -, ⟨fp, a3, a4⟩, a5, -⟩ := F2c
      obtain ⟨b0, -, -, ⟨fq, b3, b4⟩, b5, -⟩ := Q2c
      have hbw : bcW cq.2.2.2.2.1 wo k k = wo k := if_neg (Nat.lt_irrefl k)
      have a5k : h2[p + 4 + k]? = some (.inl (0, 6, .inl (wo k))) := by rw [← hbw]; exact a5 k (by omega)
      refine g_iconst (n := 0) rfl ?_
      refine g_istore_n (i := 3) (L1 := [some (.ref p), some (.ref q), some (.int (Int32.ofNat k)), some (.int (Int32.ofInt 0))]) rfl (Nat.le_of_ble_eq_true rfl) rfl ?_
      have key := s_bec_in (d := d) a0 b0 a3 a4 b3 b4 hd (show k < 5 by omega) a5k (b5 k (by omega)) (Q := fun r h' => r = none ∧ FC h' p (Ip, Gp, so, cpI cq.2.2.2.1 sh 5, bcW cq.2.2.2.2.1 wo 5, cpI cq.2.2.2.2.2.1 fo 5, ow) ∧ fE p h0 h') (fun x => ?_) 7 0 (by decide) (by decide)
      · rw [cpI_0, s_set_self a5k] at key
        exact key
      · skip
        refine g_iinc (i := 2) (L1 := [some (.ref p), some (.ref q), some (.int ((Int32.ofNat k) + Int32.ofInt 1)), some (.int x)]) rfl rfl rfl ?_
        rw [ofN_add (by omega)]
        refine g_goto 150 rfl rfl ?_
        have F3 := FC_4 (w := cpI (cq.2.2.2.2.1 k) (wo k) 6) F2 (show k < 5 by omega)
        refine ih (k + 1) _ _ (by omega) (by omega) (FC_out Q2 (by omega)) ?_ (fE_set E2 (by omega) (by omega))
        have ew : (fun i => if i = k then cpI (cq.2.2.2.2.1 k) (wo k) 6 else bcW cq.2.2.2.2.1 wo k i) = bcW cq.2.2.2.2.1 wo (k + 1) := funext fun i => by
          unfold bcW
          by_cases e : i = k
          · rw [if_pos e, if_pos (show i < k + 1 by omega), e]
          · rw [if_neg e]
            by_cases e2 : i < k
            · rw [if_pos e2, if_pos (show i < k + 1 by omega)]
            · rw [if_neg e2, if_neg (show ¬ i < k + 1 by omega)]
        rw [← ew]
        exact F3
theorem s_bec_1 {d : Nat} {h0 : sHp} {p q : Nat} {cq : CF} {Ip : Nat → Int32} {Gp : Nat → Int64} {so : Nat → Int64} {sh : Nat → Int32} {wo : Nat → Nat → Int32} {fo : Nat → Int32} {ow : Nat → Int64} {o3 : Option Value} {Q : Option Value → sHp → Prop} (hd : q + 10 < p ∨ p + 10 < q) (hQ : ∀ (h : sHp) (x : Int32), FC h q cq → FC h p (Ip, Gp, cpL cq.2.2.1 so 6, sh, wo, fo, ow) → fE p h0 h → sGo none 18 d 122 [some (.ref p), some (.ref q), some (.int x), o3] [] h Q) : ∀ (N k : Nat) (h : sHp), k ≤ 6 → 6 - k < N → FC h q cq → FC h p (Ip, Gp, cpL cq.2.2.1 so k, sh, wo, fo, ow) → fE p h0 h → sGo none 18 d 98 [some (.ref p), some (.ref q), some (.int (Int32.ofNat k)), o3] [] h Q := by
  have ec : (Int8.ofInt 6).toInt32.toInt = 6 := rfl
  intro N
  induction N with
  | zero => intro k h _ hl; omega
  | succ N ih =>
    intro k h hk hl Fq Fp E
    have ek := ofN_toInt (n := k) (by omega)
    refine g_iload_n (i := 2) rfl rfl ?_
    refine g_bipush (n := 6) rfl ?_
    refine g_icmp_ge 122 rfl rfl (fun hc => ?_) (fun hc => ?_)
    · skip
      rw [i_le, ec, ek] at hc
      have hk5 : k = 6 := by omega
      subst hk5
      exact hQ h _ Fq Fp E
    · skip
      rw [i_le, ec, ek] at hc
      refine g_aload_n (i := 0) rfl rfl ?_
      refine g_getfield (v := .ref (p + 1)) rfl Fp.1 (by decide) rfl ?_
      refine g_iload_n (i := 2) rfl rfl ?_
      refine g_aload_n (i := 1) rfl rfl ?_
      refine g_getfield (v := .ref (q + 1)) rfl Fq.1 (by decide) rfl ?_
      refine g_iload_n (i := 2) rfl rfl ?_
      refine g_laload (n := 6) (f := cq.2.2.1) rfl Fq.2.1 (i_in (by omega) (by omega)) ?_
      rw [i_nat ek]
      refine g_lastore (h1 := h.set (p + 1) (.inl (1, 6, .inr (.inl (cpL cq.2.2.1 so (k + 1)))))) rfl Fp.2.1 (i_in (by omega) (by omega)) (by rw [i_nat ek]; exact congrArg (fun e => h.set (p + 1) (.inl (1, 6, .inr (.inl e)))) (cpL_s _ _ k)) ?_
      refine g_iinc (i := 2) (L1 := [some (.ref p), some (.ref q), some (.int ((Int32.ofNat k) + Int32.ofInt 1)), o3]) rfl rfl rfl ?_
      rw [ofN_add (by omega)]
      refine g_goto 98 rfl rfl ?_
      exact ih (k + 1) _ (by omega) (by omega) (FC_out Fq (by omega)) (FC_1 (so := cpL cq.2.2.1 so (k + 1)) Fp) (fE_set E (by omega) (by omega))
theorem s_bec_2 {d : Nat} {h0 : sHp} {p q : Nat} {cq : CF} {Ip : Nat → Int32} {Gp : Nat → Int64} {so : Nat → Int64} {sh : Nat → Int32} {wo : Nat → Nat → Int32} {fo : Nat → Int32} {ow : Nat → Int64} {o3 : Option Value} {Q : Option Value → sHp → Prop} (hd : q + 10 < p ∨ p + 10 < q) (hQ : ∀ (h : sHp) (x : Int32), FC h q cq → FC h p (Ip, Gp, so, sh, wo, fo, cpL cq.2.2.2.2.2.2 ow 7) → fE p h0 h → sGo none 18 d 148 [some (.ref p), some (.ref q), some (.int x), o3] [] h Q) : ∀ (N k : Nat) (h : sHp), k ≤ 7 → 7 - k < N → FC h q cq → FC h p (Ip, Gp, so, sh, wo, fo, cpL cq.2.2.2.2.2.2 ow k) → fE p h0 h → sGo none 18 d 124 [some (.ref p), some (.ref q), some (.int (Int32.ofNat k)), o3] [] h Q := by
  have ec : (Int8.ofInt 7).toInt32.toInt = 7 := rfl
  intro N
  induction N with
  | zero => intro k h _ hl; omega
  | succ N ih =>
    intro k h hk hl Fq Fp E
    have ek := ofN_toInt (n := k) (by omega)
    refine g_iload_n (i := 2) rfl rfl ?_
    refine g_bipush (n := 7) rfl ?_
    refine g_icmp_ge 148 rfl rfl (fun hc => ?_) (fun hc => ?_)
    · skip
      rw [i_le, ec, ek] at hc
      have hk5 : k = 7 := by omega
      subst hk5
      exact hQ h _ Fq Fp E
    · skip
      rw [i_le, ec, ek] at hc
      refine g_aload_n (i := 0) rfl rfl ?_
      refine g_getfield (v := .ref (p + 10)) rfl Fp.1 (by decide) rfl ?_
      refine g_iload_n (i := 2) rfl rfl ?_
      refine g_aload_n (i := 1) rfl rfl ?_
      refine g_getfield (v := .ref (q + 10)) rfl Fq.1 (by decide) rfl ?_
      refine g_iload_n (i := 2) rfl rfl ?_
      refine g_laload (n := 7) (f := cq.2.2.2.2.2.2) rfl Fq.2.2.2.2.2.2 (i_in (by omega) (by omega)) ?_
      rw [i_nat ek]
      refine g_lastore (h1 := h.set (p + 10) (.inl (1, 7, .inr (.inl (cpL cq.2.2.2.2.2.2 ow (k + 1)))))) rfl Fp.2.2.2.2.2.2 (i_in (by omega) (by omega)) (by rw [i_nat ek]; exact congrArg (fun e => h.set (p + 10) (.inl (1, 7, .inr (.inl e)))) (cpL_s _ _ k)) ?_
      refine g_iinc (i := 2) (L1 := [some (.ref p), some (.ref q), some (.int ((Int32.ofNat k) + Int32.ofInt 1)), o3]) rfl rfl rfl ?_
      rw [ofN_add (by omega)]
      refine g_goto 124 rfl rfl ?_
      exact ih (k + 1) _ (by omega) (by omega) (FC_out Fq (by omega)) (FC_10 (ow := cpL cq.2.2.2.2.2.2 ow (k + 1)) Fp) (fE_set E (by omega) (by omega))
theorem s_become {d : Nat} {h : sHp} {p q : Nat} {cp cq : CF} (Fp : FC h p cp) (Fq : FC h q cq) (hd : q + 10 < p ∨ p + 10 < q) (fb : ∀ k, k < 5 → cq.2.2.2.2.2.1 k = 0 ∨ cq.2.2.2.2.2.1 k = 1) : sDo (d + 1) 18 [.ref p, .ref q] h (fun r h' => r = none ∧ FC h' p (cfBecome cq cp) ∧ fE p h h') := by
  obtain ⟨Ip, Gp, so, sh, wo, fo, ow⟩ := cp
  obtain ⟨Iq, Gq, so2, sh2, wo2, fo2, ow2⟩ := cq
  have a0 : h[p]? = some (fO p Ip Gp) := Fp.1
  have b0 : h[q]? = some (fO q Iq Gq) := Fq.1
  have at_ : ∀ I G, (h.set p (fO p I G))[p]? = some (fO p I G) := fun _ _ => s_set_eq a0
  have bt_ : ∀ I G, (h.set p (fO p I G))[q]? = some (fO q Iq Gq) := fun _ _ => by rw [s_set_ne (by omega)]; exact b0
  refine sDo_of (d := d) (nL := 4) (L := [some (.ref p), some (.ref q), none, none]) rfl rfl ?_
  refine g_aload_n (i := 0) rfl rfl ?_
  refine g_aload_n (i := 1) rfl rfl ?_
  refine g_getfield (v := .int (Iq 0)) rfl b0 (by decide) rfl ?_
  refine g_putfield (h1 := h.set p (fO p (upd Ip 0 (Iq 0)) Gp)) rfl a0 (by decide) (Nat.le_of_ble_eq_true rfl) rfl rfl ?_
  refine g_aload_n (i := 0) rfl rfl ?_
  refine g_aload_n (i := 1) rfl rfl ?_
  refine g_getfield (v := .int (Iq 1)) rfl (bt_ _ _) (by decide) rfl ?_
  refine g_putfield (h1 := h.set p (fO p (upd (upd Ip 0 (Iq 0)) 1 (Iq 1)) Gp)) rfl (at_ _ _) (by decide) (Nat.le_of_ble_eq_true rfl) rfl (List.set_set ..) ?_
  refine g_aload_n (i := 0) rfl rfl ?_
  refine g_aload_n (i := 1) rfl rfl ?_
  refine g_getfield (v := .long (Gq 2)) rfl (bt_ _ _) (by decide) rfl ?_
  refine g_putfield (h1 := h.set p (fO p (upd (upd Ip 0 (Iq 0)) 1 (Iq 1)) (vp_updL Gp 2 (Gq 2)))) rfl (at_ _ _) (by decide) (Nat.le_of_ble_eq_true rfl) rfl (List.set_set ..) ?_
  refine g_aload_n (i := 0) rfl rfl ?_
  refine g_aload_n (i := 1) rfl rfl ?_
  refine g_getfield (v := .long (Gq 3)) rfl (bt_ _ _) (by decide) rfl ?_
  refine g_putfield (h1 := h.set p (fO p (upd (upd Ip 0 (Iq 0)) 1 (Iq 1)) (vp_updL (vp_updL Gp 2 (Gq 2)) 3 (Gq 3)))) rfl (at_ _ _) (by decide) (Nat.le_of_ble_eq_true rfl) rfl (List.set_set ..) ?_
  refine g_aload_n (i := 0) rfl rfl ?_
  refine g_aload_n (i := 1) rfl rfl ?_
  refine g_getfield (v := .long (Gq 4)) rfl (bt_ _ _) (by decide) rfl ?_
  refine g_putfield (h1 := h.set p (fO p (upd (upd Ip 0 (Iq 0)) 1 (Iq 1)) (vp_updL (vp_updL (vp_updL Gp 2 (Gq 2)) 3 (Gq 3)) 4 (Gq 4)))) rfl (at_ _ _) (by decide) (Nat.le_of_ble_eq_true rfl) rfl (List.set_set ..) ?_
  refine g_aload_n (i := 0) rfl rfl ?_
  refine g_aload_n (i := 1) rfl rfl ?_
  refine g_getfield (v := .long (Gq 5)) rfl (bt_ _ _) (by decide) rfl ?_
  refine g_putfield (h1 := h.set p (fO p (upd (upd Ip 0 (Iq 0)) 1 (Iq 1)) (vp_updL (vp_updL (vp_updL (vp_updL Gp 2 (Gq 2)) 3 (Gq 3)) 4 (Gq 4)) 5 (Gq 5)))) rfl (at_ _ _) (by decide) (Nat.le_of_ble_eq_true rfl) rfl (List.set_set ..) ?_
  refine g_aload_n (i := 0) rfl rfl ?_
  refine g_aload_n (i := 1) rfl rfl ?_
  refine g_getfield (v := .long (Gq 6)) rfl (bt_ _ _) (by decide) rfl ?_
  refine g_putfield (h1 := h.set p (fO p (upd (upd Ip 0 (Iq 0)) 1 (Iq 1)) (vp_updL (vp_updL (vp_updL (vp_updL (vp_updL Gp 2 (Gq 2)) 3 (Gq 3)) 4 (Gq 4)) 5 (Gq 5)) 6 (Gq 6)))) rfl (at_ _ _) (by decide) (Nat.le_of_ble_eq_true rfl) rfl (List.set_set ..) ?_
  refine g_aload_n (i := 0) rfl rfl ?_
  refine g_aload_n (i := 1) rfl rfl ?_
  refine g_getfield (v := .int (Iq 7)) rfl (bt_ _ _) (by decide) rfl ?_
  refine g_putfield (h1 := h.set p (fO p (upd (upd (upd Ip 0 (Iq 0)) 1 (Iq 1)) 7 (Iq 7)) (vp_updL (vp_updL (vp_updL (vp_updL (vp_updL Gp 2 (Gq 2)) 3 (Gq 3)) 4 (Gq 4)) 5 (Gq 5)) 6 (Gq 6)))) rfl (at_ _ _) (by decide) (Nat.le_of_ble_eq_true rfl) rfl (List.set_set ..) ?_
  refine g_aload_n (i := 0) rfl rfl ?_
  refine g_aload_n (i := 1) rfl rfl ?_
  refine g_getfield (v := .int (Iq 8)) rfl (bt_ _ _) (by decide) rfl ?_
  refine g_putfield (h1 := h.set p (fO p (upd (upd (upd (upd Ip 0 (Iq 0)) 1 (Iq 1)) 7 (Iq 7)) 8 (Iq 8)) (vp_updL (vp_updL (vp_updL (vp_updL (vp_updL Gp 2 (Gq 2)) 3 (Gq 3)) 4 (Gq 4)) 5 (Gq 5)) 6 (Gq 6)))) rfl (at_ _ _) (by decide) (Nat.le_of_ble_eq_true rfl) rfl (List.set_set ..) ?_
  refine g_aload_n (i := 0) rfl rfl ?_
  refine g_aload_n (i := 1) rfl rfl ?_
  refine g_getfield (v := .int (Iq 9)) rfl (bt_ _ _) (by decide) rfl ?_
  refine g_putfield (h1 := h.set p (fO p (upd (upd (upd (upd (upd Ip 0 (Iq 0)) 1 (Iq 1)) 7 (Iq 7)) 8 (Iq 8)) 9 (Iq 9)) (vp_updL (vp_updL (vp_updL (vp_updL (vp_updL Gp 2 (Gq 2)) 3 (Gq 3)) 4 (Gq 4)) 5 (Gq 5)) 6 (Gq 6)))) rfl (at_ _ _) (by decide) (Nat.le_of_ble_eq_true rfl) rfl (List.set_set ..) ?_
  refine g_aload_n (i := 0) rfl rfl ?_
  refine g_aload_n (i := 1) rfl rfl ?_
  refine g_getfield (v := .int (Iq 10)) rfl (bt_ _ _) (by decide) rfl ?_
  refine g_putfield (h1 := h.set p (fO p (upd (upd (upd (upd (upd (upd Ip 0 (Iq 0)) 1 (Iq 1)) 7 (Iq 7)) 8 (Iq 8)) 9 (Iq 9)) 10 (Iq 10)) (vp_updL (vp_updL (vp_updL (vp_updL (vp_updL Gp 2 (Gq 2)) 3 (Gq 3)) 4 (Gq 4)) 5 (Gq 5)) 6 (Gq 6)))) rfl (at_ _ _) (by decide) (Nat.le_of_ble_eq_true rfl) rfl (List.set_set ..) ?_
  refine g_aload_n (i := 0) rfl rfl ?_
  refine g_aload_n (i := 1) rfl rfl ?_
  refine g_getfield (v := .int (Iq 11)) rfl (bt_ _ _) (by decide) rfl ?_
  refine g_putfield (h1 := h.set p (fO p (upd (upd (upd (upd (upd (upd (upd Ip 0 (Iq 0)) 1 (Iq 1)) 7 (Iq 7)) 8 (Iq 8)) 9 (Iq 9)) 10 (Iq 10)) 11 (Iq 11)) (vp_updL (vp_updL (vp_updL (vp_updL (vp_updL Gp 2 (Gq 2)) 3 (Gq 3)) 4 (Gq 4)) 5 (Gq 5)) 6 (Gq 6)))) rfl (at_ _ _) (by decide) (Nat.le_of_ble_eq_true rfl) rfl (List.set_set ..) ?_
  have F1 : FC (h.set p (fO p (upd (upd (upd (upd (upd (upd (upd Ip 0 (Iq 0)) 1 (Iq 1)) 7 (Iq 7)) 8 (Iq 8)) 9 (Iq 9)) 10 (Iq 10)) 11 (Iq 11)) (vp_updL (vp_updL (vp_updL (vp_updL (vp_updL Gp 2 (Gq 2)) 3 (Gq 3)) 4 (Gq 4)) 5 (Gq 5)) 6 (Gq 6)))) p (bcI Iq Ip, bcG Gq Gp, so, sh, wo, fo, ow) := FC_0 Fp
  have E1 : fE p h (h.set p (fO p (upd (upd (upd (upd (upd (upd (upd Ip 0 (Iq 0)) 1 (Iq 1)) 7 (Iq 7)) 8 (Iq 8)) 9 (Iq 9)) 10 (Iq 10)) 11 (Iq 11)) (vp_updL (vp_updL (vp_updL (vp_updL (vp_updL Gp 2 (Gq 2)) 3 (Gq 3)) 4 (Gq 4)) 5 (Gq 5)) 6 (Gq 6)))) := fE_set fE_rfl (by omega) (by omega)
  have Q1 := FC_out (x := fO p (upd (upd (upd (upd (upd (upd (upd Ip 0 (Iq 0)) 1 (Iq 1)) 7 (Iq 7)) 8 (Iq 8)) 9 (Iq 9)) 10 (Iq 10)) 11 (Iq 11)) (vp_updL (vp_updL (vp_updL (vp_updL (vp_updL Gp 2 (Gq 2)) 3 (Gq 3)) 4 (Gq 4)) 5 (Gq 5)) 6 (Gq 6))) Fq (show p < q ∨ q + 10 < p by omega)
  generalize h.set p (fO p (upd (upd (upd (upd (upd (upd (upd Ip 0 (Iq 0)) 1 (Iq 1)) 7 (Iq 7)) 8 (Iq 8)) 9 (Iq 9)) 10 (Iq 10)) 11 (Iq 11)) (vp_updL (vp_updL (vp_updL (vp_updL (vp_updL Gp 2 (Gq 2)) 3 (Gq 3)) 4 (Gq 4)) 5 (Gq 5)) 6 (Gq 6))) = h1 at F1 E1 Q1
  refine g_iconst (n := 0) rfl ?_
  refine g_istore_n (i := 2) (L1 := [some (.ref p), some (.ref q), some (.int (Int32.ofInt 0)), none]) rfl (Nat.le_of_ble_eq_true rfl) rfl ?_
  refine s_bec_1 hd (fun h2 x Q2 F2 E2 => ?_) 7 0 h1 (by decide) (by decide) Q1 (by rw [cpL_0]; exact F1) E1
  refine g_iconst (n := 0) rfl ?_
  refine g_istore_n (i := 2) (L1 := [some (.ref p), some (.ref q), some (.int (Int32.ofInt 0)), none]) rfl (Nat.le_of_ble_eq_true rfl) rfl ?_
  refine s_bec_2 hd (fun h3 x3 Q3 F3 E3 => ?_) 8 0 h2 (by decide) (by decide) Q2 (by rw [cpL_0]; exact F2) E2
  refine g_iconst (n := 0) rfl ?_
  refine g_istore_n (i := 2) (L1 := [some (.ref p), some (.ref q), some (.int (Int32.ofInt 0)), none]) rfl (Nat.le_of_ble_eq_true rfl) rfl ?_
  have w0 : bcW wo2 wo 0 = wo := funext fun i => if_neg (Nat.not_lt_zero i)
  exact s_bec_3 hd fb 6 0 h3 _ (by decide) (by decide) Q3 (by rw [cpI_0, cpI_0, w0]; exact F3) E3
