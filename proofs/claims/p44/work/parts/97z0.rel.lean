/-! ===== owners are heirs, the lane or nobody ===== -/
def oOk (n v : Int32) : Prop := v = 9 ∨ v = -1 ∨ (0 ≤ v.toInt ∧ v.toInt < n.toInt)
def QO (m : MF) : Prop := ∀ q, q < 64 → oOk (m.1 6) (m.2.2.1 q)
def RQ (c : CF) (m : MF) : Prop := RO c m ∧ QO m
theorem okO_o {n k : Nat} {v : Int32} (hN : n ≤ 5) (h : okO n v k) : oOk (Int32.ofNat n) v := by
  rcases h with ⟨-, e⟩ | ⟨-, e⟩ | ⟨hk, e⟩
  · exact Or.inl e
  · exact Or.inr (Or.inl e)
  · refine Or.inr (Or.inr ?_)
    rw [e, ofN_toInt (by omega), ofN_toInt (by omega)]
    omega
theorem oOk_k {n : Nat} {v : Int32} (hN : n ≤ 5) (h : oOk (Int32.ofNat n) v) : ∃ k, okO n v k := by
  rcases h with e | e | e
  · exact ⟨5, Or.inl ⟨rfl, e⟩⟩
  · exact ⟨6, Or.inr (Or.inl ⟨rfl, e⟩)⟩
  · rw [ofN_toInt (by omega)] at e
    exact ⟨v.toInt.toNat, Or.inr (Or.inr ⟨by omega, Int32.toInt_inj.mp (by rw [ofN_toInt (by omega)]; omega)⟩)⟩
theorem oOk_up {a b v : Int32} (h : oOk a v) (hb : a.toInt ≤ b.toInt) : oOk b v := by
  rcases h with e | e | e
  · exact Or.inl e
  · exact Or.inr (Or.inl e)
  · exact Or.inr (Or.inr ⟨e.1, by omega⟩)
theorem svF_6 (m : MF) (g : Nat → Int32) : svF m g 174 = m.1 6 := by
  unfold svF gS7
  exact u_at
theorem bkJ_6 (J g : Nat → Int32) : bkJ J g 6 = g 174 := by
  unfold bkJ
  exact u_at
theorem szJ_6 (x y : Int32) (J : Nat → Int32) : szJ x y J 6 = J 6 := by
  unfold szJ
  rw [u_ne (by decide), u_ne (by decide), u_ne (by decide), u_ne (by decide)]
theorem QO_do {m : MF} {s : Sg} {a : Act} (q : QO m) (p : sgJ m.1 s) (k : actOk s a) : QO (mfDo m a) := by
  obtain ⟨i, x, y, w⟩ := a
  match i, k with
  | 0, k =>
    intro z hz
    exact Or.inr (Or.inl (if_pos hz))
  | 1, k => exact q
  | 2, k =>
    have k : x < 4 ∧ y < 100 ∧ okPl (s.1 * s.2.1) x y := k
    intro z hz
    show oOk (upd m.1 (2 + x) (Int32.ofNat y) 6) (m.2.2.1 z)
    rw [u_ne (by omega)]
    exact q z hz
  | 3, k =>
    have k : 1 ≤ x ∧ x ≤ 9 ∧ s.2.2 < 5 := k
    intro z hz
    have e6 : (m.1 6).toInt = ((s.2.2 : Nat) : Int) := by rw [p.2.2.1]; exact ofN_toInt (by omega)
    show oOk (upd m.1 6 (Int32.ofNat ((m.1 6).toNatClampNeg + 1)) 6) (m.2.2.1 z)
    rw [u_at, i_nat e6]
    exact oOk_up (q z hz) (by rw [e6, ofN_toInt (by omega)]; omega)
  | i + 4, k => exact q
theorem QO_back {m' : MF} {g : Nat → Int32} (h : ∀ q, q < 64 → oOk (g 174) (g (64 + q))) : QO (mfBack m' g) := fun q hq => by
  show oOk (bkJ m'.1 g 6) (kb m'.2.2.1 g 64 64 q)
  rw [bkJ_6]
  unfold kb
  rw [if_pos hq]
  exact h q hq
theorem RQ_ok : relOk RQ := by
  refine ⟨fun c m m' r q => ⟨RO_ok.1 c m m' r.1 q, fun z hz => ?_⟩, fun c m s a r q p k => ⟨RO_ok.2.1 c m s a r.1 q p k, QO_do r.2 p k⟩, fun a b m r => ⟨RO_ok.2.2.1 a b m r.1, r.2⟩, fun c m m' g r => ⟨RO_ok.2.2.2.1 c m m' g r.1, QO_back (fun q hq => ?_)⟩, fun c m r => RO_ok.2.2.2.2.1 c m r.1, fun c m s k v r q hk hv => ⟨RO_ok.2.2.2.2.2 c m s k v r.1 q hk hv, fun z hz => ?_⟩⟩
  · rw [q.1 6 (by decide), show m'.2.2.1 = m.2.2.1 from by rw [q.2]]
    exact r.2 z hz
  · rw [svF_6, svF_ow m g hq]
    exact r.2 q hq
  · show oOk (upd m.1 (2 + k) v 6) (m.2.2.1 z)
    rw [u_ne (by omega)]
    exact r.2 z hz
theorem RQ_fo : relFo RQ := fun c m s i b r q hi hb => ⟨RO_fo c m s i b r.1 q hi hb, r.2⟩
theorem mO_6 {J J' : Nat → Int32} (h : mO J = mO J') : J 6 = J' 6 ∧ J 37 = J' 37 := by
  have a := congrArg (fun e : va_E => match e with | .inr (_, l) => l[6]? | .inl _ => (none : Option Value)) h
  have b := congrArg (fun e : va_E => match e with | .inr (_, l) => l[37]? | .inl _ => (none : Option Value)) h
  exact ⟨Value.int.inj (Option.some.inj (show some (Value.int (J 6)) = some (Value.int (J' 6)) from a)), Value.int.inj (Option.some.inj (show some (Value.int (J 37)) = some (Value.int (J' 37)) from b))⟩
theorem MC_same {h : sHp} {m m' : MF} (a : MC h m) (b : MC h m') : (m'.1 6 = m.1 6 ∧ m'.1 37 = m.1 37) ∧ m'.2.2.1 = m.2.2.1 := ⟨mO_6 (Option.some.inj (b.1.symm.trans a.1)), MC_one a b⟩
/-- so in the field now and, once taken, in the image -/
def bOw (h : sHp) : Prop := ∃ (m : MF) (g : Nat → Int32), kM h m g ∧ QO m ∧ (¬ m.1 37 = 0 → ∀ q, q < 64 → oOk (g 174) (g (64 + q)))
theorem bOw_of {h : sHp} (q : bFL RQ h) : bOw h := by
  obtain ⟨c, ck, m, g, ik, tf, kc, km, ej, rl, rk⟩ := q
  refine ⟨m, g, km, rl.2, fun z i hi => ?_⟩
  have y := (rk (by rw [← ej]; exact z) m).2 i hi
  have y2 : oOk (bkJ m.1 g 6) (kb m.2.2.1 g 64 64 i) := y
  rw [bkJ_6] at y2
  unfold kb at y2
  rw [if_pos hi] at y2
  exact y2
theorem bFLQ {h : sHp} (q : bFL RO h) (p : bOw h) : bFL RQ h := by
  obtain ⟨c, ck, m, g, ik, tf, kc, km, ej, rl, rk⟩ := q
  obtain ⟨m1, g1, km1, q1, z1⟩ := p
  have e := MC_same km.1 km1.1
  have eg : g1 = g := by
    have y := km1.2.symm.trans km.2
    simp only [Option.some.injEq, Sum.inl.injEq, Prod.mk.injEq, true_and] at y
    exact y
  refine ⟨c, ck, m, g, ik, tf, kc, km, ej, ⟨rl, fun i hi => ?_⟩, fun z m' => ⟨rk z m', QO_back ?_⟩⟩
  · have y := q1 i hi
    rw [e.1.1, e.2] at y
    exact y
  · have y := z1 (by rw [e.1.2, ej]; exact z)
    rw [eg] at y
    exact y
theorem bOw_frO {W gg : Nat} {h h' : sHp} {ow' : Nat → Int32} (hH' : bH h') (a : bFr W gg h h') (hW : ∀ b ∈ KBm, W.testBit b = false) (h63 : h'[63]? = some (.inl (0, 64, .inl ow'))) (q : bOw h) (z : ∀ m, MC h m → QO m → ∀ q, q < 64 → oOk (m.1 6) (ow' q)) : bOw h' := by
  obtain ⟨m, g, km, qo, kz⟩ := q
  obtain ⟨J', km', eJ, e37⟩ := kM_frO hH' a hW h63 km
  refine ⟨(J', m.2.1, ow', m.2.2.2), g, km', fun i hi => ?_, fun y => kz (by rw [← e37]; exact y)⟩
  show oOk (J' 6) (ow' i)
  rw [eJ 6 (by decide)]
  exact z m km.1 qo i hi
theorem bOw_fr {W gg : Nat} {h h' : sHp} (hH' : bH h') (a : bFr W gg h h') (hW : ∀ b ∈ KBm, W.testBit b = false) (w63 : W.testBit (63 * 64) = false) (q : bOw h) : bOw h' := by
  have q' := q
  obtain ⟨m, g, km, qo, kz⟩ := q'
  exact bOw_frO hH' a hW (bFr_arr a km.1.2.2.1 (by decide) rfl w63) q (fun m' M' q' i hi => by
    have y := q' i hi
    rw [MC_one km.1 M'] at y
    exact y)
theorem kM_vO {h h1 : sHp} {m : MF} {g : Nat → Int32} (E : vO h h1) (km : kM h m g) : kM h1 m g := ⟨MC_vO km.1 E, vO_at E km.2 (by decide)⟩
theorem bOw_vO {h h1 : sHp} (E : vO h h1) (q : bOw h) : bOw h1 := by
  obtain ⟨m, g, km, qo, kz⟩ := q
  exact ⟨m, g, kM_vO E km, qo, kz⟩
/-- two pairs of the same calls -/
theorem pr_both {A B : sHp → Prop} {k1 k2 : Nat} {as : List Value} (p : pairR A k1 k2 as) (q : pairR B k1 k2 as) : pairR (fun h => A h ∧ B h) k1 k2 as := fun h hH hR => sDo_mono (sDo_and (p h hH hR.1) (q h hH hR.2)) (fun r1 h1 z => ⟨z.1.1, z.1.2.1, sDo_mono (sDo_and z.1.2.2 z.2.2.2) (fun r2 h2 y => ⟨y.1.1, y.1.2.1, ⟨y.1.2.2.1, y.2.2.2.1⟩, y.1.2.2.2⟩)⟩)
theorem pr_wQ {c1 c2 : bCn} {as : List Value} (h1 : bHolds c1) (h2 : bHolds c2) (d1 : Nat.ble c1.2.1 10 = true) (d2 : Nat.ble c2.2.1 10 = true) (g1 : Nat.ble c1.2.2.2.2.2.1 1 = true) (g2 : Nat.ble c2.2.2.2.2.2.1 1 = true) (o1 : c1.2.2.2.1 = []) (o2 : c2.2.2.2.1 = []) (t1 : ∀ h, bH h → bTl h c1.2.2.1 (.ref 0 :: as)) (t2 : ∀ h, bH h → bTl h c2.2.2.1 (.ref 60 :: as)) (w1 : ∀ b ∈ bRM ++ (KBc ++ (KBm ++ [63 * 64])), c1.2.2.2.2.1.testBit b = false) (w2 : ∀ b ∈ bRM ++ (KBc ++ (KBm ++ [15 * 64])), c2.2.2.2.2.1.testBit b = false) (e : ∀ h, bH h → bR9 h → ∃ (v : Value) (S' : Nat → Int64) (ow' : Nat → Int32), (∀ c m s, RO c m → FC h 5 c → MC h m → sgI c s → PT S' ow' (s.1 * s.2.1)) ∧ (∀ m, MC h m → QO m → ∀ q, q < 64 → oOk (m.1 6) (ow' q)) ∧ sDo 10 c1.1 (.ref 0 :: as) h (fun r h1 => r = some v ∧ h1[15]? = some (.inl (1, 7, .inr (.inl S'))) ∧ vO h h1) ∧ ∀ h1, bH h1 → vO h h1 → sDo 10 c2.1 (.ref 60 :: as) h1 (fun r h2 => r = some v ∧ h2[63]? = some (.inl (0, 64, .inl ow')))) : pairR (fun h => bR9 h ∧ bOw h) c1.1 c2.1 as :=
  pr_mk h1 h2 d1 d2 g1 g2 o1 o2 t1 t2 (fun h hH hRQ => by
    obtain ⟨hR, hQ⟩ := hRQ
    obtain ⟨v, S', ow', p, z, e1, e2⟩ := e h hH hR
    obtain ⟨m, g, km, qo, kz⟩ := hQ
    exact sDo_mono e1 (fun r1 h1' q hH1 fr1 => sDo_mono (e2 h1' hH1 q.2.2) (fun r2 h2' y hH2 fr2 => ⟨⟨bR9_own hH1 hH2 fr1 fr2 w1 w2 hR q.2.1 y.2 p, bOw_frO hH2 fr2 (fun b hb => w2 b (List.mem_append_right _ (List.mem_append_right _ (List.mem_append_left _ hb)))) y.2 ⟨m, g, kM_vO q.2.2 km, qo, kz⟩ (fun m' M' q' i hi => by
      have x := z m km.1 qo i hi
      rw [← (MC_same (MC_vO km.1 q.2.2) M').1.1] at x
      exact x)⟩, v, q.1, y.1⟩)))
theorem pr_oQ {c1 c2 : bCn} {as : List Value} (h1 : bHolds c1) (h2 : bHolds c2) (d1 : Nat.ble c1.2.1 10 = true) (d2 : Nat.ble c2.2.1 10 = true) (g1 : Nat.ble c1.2.2.2.2.2.1 1 = true) (g2 : Nat.ble c2.2.2.2.2.2.1 1 = true) (o1 : c1.2.2.2.1 = []) (o2 : c2.2.2.2.1 = []) (t1 : ∀ h, bH h → bTl h c1.2.2.1 (.ref 0 :: as)) (t2 : ∀ h, bH h → bTl h c2.2.2.1 (.ref 60 :: as)) (w1 : ∀ b ∈ bR9M, c1.2.2.2.2.1.testBit b = false) (w2 : ∀ b ∈ bRM ++ (KBc ++ (KBm ++ [15 * 64])), c2.2.2.2.2.1.testBit b = false) (e : ∀ h, bH h → bR9 h → ∃ (v : Value) (ow : Nat → Int32), h[63]? = some (.inl (0, 64, .inl ow)) ∧ sDo 10 c1.1 (.ref 0 :: as) h (fun r h1 => r = some v ∧ vE h h1) ∧ ∀ h1, bH h1 → vE h h1 → sDo 10 c2.1 (.ref 60 :: as) h1 (fun r h2 => r = some v ∧ ∃ ow', h2[63]? = some (.inl (0, 64, .inl ow')) ∧ ∀ q, q < 64 → ow' q = ow q)) : pairR (fun h => bR9 h ∧ bOw h) c1.1 c2.1 as :=
  pr_mk h1 h2 d1 d2 g1 g2 o1 o2 t1 t2 (fun h hH hRQ => by
    obtain ⟨hR, hQ⟩ := hRQ
    obtain ⟨v, ow, h63, e1, e2⟩ := e h hH hR
    obtain ⟨m, g, km, qo, kz⟩ := hQ
    have eow : ow = m.2.2.1 := by
      have y := h63.symm.trans km.1.2.2.1
      simp only [Option.some.injEq, Sum.inl.injEq, Prod.mk.injEq, true_and] at y
      exact y
    exact sDo_mono e1 (fun r1 h1' q hH1 fr1 => sDo_mono (e2 h1' hH1 q.2) (fun r2 h2' y hH2 fr2 => by
      obtain ⟨y1, ow', y63, ye⟩ := y
      refine ⟨⟨bR9_back hH2 fr2 w2 (bR9_fr hH1 fr1 w1 hR) (vE_at q.2 h63 (by decide)) ⟨ow', y63, ye⟩, bOw_frO hH2 fr2 (fun b hb => w2 b (List.mem_append_right _ (List.mem_append_right _ (List.mem_append_left _ hb)))) y63 ⟨m, g, kM_vO ⟨q.2.1, fun q' a _ => q.2.2 q' a⟩ km, qo, kz⟩ (fun m' M' q' i hi => ?_)⟩, v, q.1, y1⟩
      have x := qo i hi
      rw [ye i hi, eow]
      rw [← (MC_same (MC_vO km.1 ⟨q.2.1, fun q' a _ => q.2.2 q' a⟩) M').1.1] at x
      exact x)))
theorem QO_keep {h : sHp} {m : MF} (M : MC h m) : ∀ m', MC h m' → QO m' → ∀ q, q < 64 → oOk (m'.1 6) (m.2.2.1 q) := fun m' M' q' i hi => by
  have y := q' i hi
  rw [MC_one M M'] at y
  exact y
theorem QO_new {h : sHp} {m : MF} {s : Sg} {ow' : Nat → Int32} (M : MC h m) (sJ : sgJ m.1 s) (z : ∀ q, q < 64 → ow' q = m.2.2.1 q ∨ ∃ k, okO s.2.2 (ow' q) k) : ∀ m', MC h m' → QO m' → ∀ q, q < 64 → oOk (m'.1 6) (ow' q) := fun m' M' q' i hi => by
  rcases z i hi with e | ⟨k, hk⟩
  · rw [e]; exact QO_keep M m' M' q' i hi
  · rw [(MC_same M M').1.1, sJ.2.2.1]
    exact okO_o sJ.2.2.2.2.2.2.2 hk
theorem md_QO {m : MF} {s : Sg} {n : Int32} (hn : s.1 * s.2.1 ≤ 64) (hN : s.2.2 ≤ 5) (en : n = Int32.ofNat s.2.2) : ∀ (f : Nat) (ow : Nat → Int32), (∀ q, q < 64 → oOk n (ow q)) → ∀ q, q < 64 → oOk n ((mdW m s f ow).2 q) := by
  intro f
  induction f with
  | zero => intro ow h; exact h
  | succ f ih =>
    intro ow h
    by_cases z : (btA m s ow).1 = none
    · rw [mdW_n z]; exact h
    · have p := cdA_p hn hN z
      rw [mdW_s z]
      refine ih _ (fun q hq => ?_)
      unfold owC
      by_cases y : q = cdA (btA m s ow) / 10
      · rw [if_pos y, en]
        exact okO_o hN (Or.inr (Or.inr ⟨p.2.2.1, rfl⟩))
      · rw [if_neg y]; exact h q hq
theorem prq_own (x : Int64) (i : Int32) : pairR (fun h => bR9 h ∧ bOw h) 133 216 [.long x, .int i] := pr_wQ (c1 := cn_X11_own_0) (c2 := cn_X12_own_0) ch_X11_own_0 ch_X12_own_0 (by decide +kernel) (by decide +kernel) (by decide +kernel) (by decide +kernel) rfl rfl (fun h hH => ⟨bt0 hH, vL0 x, vI0 i, trivial⟩) (fun h hH => ⟨bt60 hH, vL0 x, vI0 i, trivial⟩) (by decide +kernel) (by decide +kernel) (fun h hH hR => by
  obtain ⟨⟨hd, so, sz, co, cl, f, gg, q4, bs⟩, c, ck, m, gk, ik, tf, kc, km, ej, rl, rk⟩ := hR
  have F := kc.1
  have h0 := kc.2.2.1
  have M := km.1
  obtain ⟨R, hR43⟩ := RA_of hH (p := 43) (Or.inl rfl)
  obtain ⟨s, sI, sJ, g, gM⟩ := RN_sg rl.1.1
  have n5 := sI.2.2.2.2.2.2.2
  have hn := gdF_n g
  have PO := rl.2 s sI
  have gd := gM
  obtain ⟨-, -, w2, w8, -, h8⟩ := gd
  by_cases hk : (∃ k, okO s.2.2 i k) ∧ inN x (s.1 * s.2.1)
  · obtain ⟨⟨k, hk⟩, hx⟩ := hk
    have k7 := okO_c n5 hk
    refine ⟨_, giveS c.2.2.2.2.2.2 7 x k, (fun q => if q < (s.1 * s.2.1) ∧ bt x q = true then i else m.2.2.1 q), fun c' m' s' r' F' M' sI' => ?_, QO_new M sJ (fun q _ => by
      show (if q < s.1 * s.2.1 ∧ bt x q = true then i else m.2.2.1 q) = m.2.2.1 q ∨ ∃ k, okO s.2.2 (if q < s.1 * s.2.1 ∧ bt x q = true then i else m.2.2.1 q) k
      by_cases y : q < s.1 * s.2.1 ∧ bt x q = true
      · rw [if_pos y]; exact Or.inr ⟨k, hk⟩
      · rw [if_neg y]; exact Or.inl rfl), sDo_mono (s_own11 (d := 10) (by omega) h0 F g sI hk hx) (fun r h' q => ⟨q.1, by rw [q.2]; exact s_set_eq F.2.2.2.2.2.2, by rw [q.2]; exact vO_15 vO_rfl⟩), fun h1 hH1 E => sDo_mono (s_own12 (d := 10) (by omega) (MC_vO M E) gM sJ ⟨k, hk⟩ hx) (fun r h' q => ⟨q.1, by rw [q.2]; exact s_set_eq (MC_vO M E).2.2.1⟩)⟩
    have P' := r'.2 s' sI'
    rw [FC_one F F', MC_one M M'] at P'
    have es : s'.1 * s'.2.1 = s.1 * s.2.1 := sg_one F F' sI sI'
    rw [es] at P' ⊢
    refine PT_give (P := fun q => bt x q) hn.1 k7.1 (bt_ext (fun q hq => ?_)) (fun q hq => ?_) P'
    · rw [bt_stO _ _ hn.1]
      by_cases z : bt x q = true
      · rw [z, decide_eq_true (hx q hq z)]; rfl
      · rw [nTF z, Bool.and_false]
    · show (if q < s.1 * s.2.1 ∧ bt x q = true then i else m.2.2.1 q) = _
      by_cases z : bt x q = true
      · rw [if_pos ⟨hq, z⟩, if_pos z]; exact k7.2
      · rw [if_neg (fun y => z y.2), if_neg z]
  · refine ⟨_, c.2.2.2.2.2.2, m.2.2.1, fun c' m' s' r' F' M' sI' => ?_, QO_keep M, sDo_mono (s_own11n (d := 10) (by omega) h0 hR43 F g sI hk) (fun r h' q => ⟨q.1, by rw [q.2, s_set_ne (by decide)]; exact F.2.2.2.2.2.2, by rw [q.2]; exact vO_43 vO_rfl (by decide)⟩), fun h1 hH1 E => ?_⟩
    · have P' := r'.2 s' sI'
      rw [FC_one F F', MC_one M M'] at P'
      exact P'
    · obtain ⟨Rm, hRm⟩ := RA_of hH1 (p := 61) (Or.inr rfl)
      exact sDo_mono (s_own12n (d := 10) (by omega) (MC_vO M E) hRm gM sJ hk) (fun r h' q => ⟨q.1, by rw [q.2, s_set_ne (by decide)]; exact (MC_vO M E).2.2.1⟩))
theorem prq_lay (sh : Int32) (i : Int32) (j : Int32) : pairR (fun h => bR9 h ∧ bOw h) 134 217 [.int sh, .int i, .int j] := pr_wQ (c1 := cn_X11_lay_0) (c2 := cn_X12_lay_0) ch_X11_lay_0 ch_X12_lay_0 (by decide +kernel) (by decide +kernel) (by decide +kernel) (by decide +kernel) rfl rfl (fun h hH => ⟨bt0 hH, vI0 sh, vI0 i, vI0 j, trivial⟩) (fun h hH => ⟨bt60 hH, vI0 sh, vI0 i, vI0 j, trivial⟩) (by decide +kernel) (by decide +kernel) (fun h hH hR => by
  obtain ⟨⟨hd, so, sz, co, cl, f, gg, q4, bs⟩, c, ck, m, gk, ik, tf, kc, km, ej, rl, rk⟩ := hR
  have F := kc.1
  have h0 := kc.2.2.1
  have M := km.1
  obtain ⟨R, hR43⟩ := RA_of hH (p := 43) (Or.inl rfl)
  obtain ⟨s, sI, sJ, g, gM⟩ := RN_sg rl.1.1
  have n5 := sI.2.2.2.2.2.2.2
  have hn := gdF_n g
  have PO := rl.2 s sI
  have gd := gM
  obtain ⟨-, -, w2, w8, -, h8⟩ := gd
  obtain ⟨T, s42⟩ : ∃ T : Nat → Int64, h[42]? = some (.inl (1, 7, .inr (.inl T))) := bA60L hH (p := 42) (by decide) rfl
  have q4' := q4
  obtain ⟨a1, a2, a3, a4, a5, a6, a7, a8⟩ := q4'
  have refd : ∀ (b : Int32) (B : Nat), sDo 9 162 [.ref 0, .int sh] h (fun r h' => h' = h ∧ r = some (.int b)) → ((0 ≤ sh.toInt ∧ sh.toInt < 8) → ∀ h1, bH h1 → vO h h1 → sDo 9 184 [.ref 60, .int sh, .int (Int32.ofInt 2)] h1 (fun r h' => h' = h1 ∧ r = some (.int b))) → (b.toInt = -1 ↔ ¬ (0 ≤ sh.toInt ∧ sh.toInt < 8)) → B ≤ 7 → ((b.toInt = -1 ∨ ¬ (∃ k, okO s.2.2 i k) ∨ ¬ (∃ k, okO s.2.2 j k)) ∧ B = 1 ∨ (¬ b.toInt = -1 ∧ (∃ k, okO s.2.2 i k) ∧ (∃ k, okO s.2.2 j k)) ∧ b.toInt = -(B : Int) ∧ 1 ≤ B ∧ B ≤ 7) → ∃ (v : Value) (S' : Nat → Int64) (ow' : Nat → Int32), (∀ c m s, RO c m → FC h 5 c → MC h m → sgI c s → PT S' ow' (s.1 * s.2.1)) ∧ (∀ m, MC h m → QO m → ∀ q, q < 64 → oOk (m.1 6) (ow' q)) ∧ sDo 10 134 [.ref 0, .int sh, .int i, .int j] h (fun r h1 => r = some v ∧ h1[15]? = some (.inl (1, 7, .inr (.inl S'))) ∧ vO h h1) ∧ ∀ h1, bH h1 → vO h h1 → sDo 10 217 [.ref 60, .int sh, .int i, .int j] h1 (fun r h2 => r = some v ∧ h2[63]? = some (.inl (0, 64, .inl ow'))) := by
    intro b B hno wt hb hB7 hx
    refine ⟨.int (-(Int32.ofNat B)), c.2.2.2.2.2.2, m.2.2.1, fun c' m' s' r' F' M' sI' => ?_, QO_keep M, sDo_mono (s_lay11n (d := 10) (by omega) h0 hR43 F sI hno hx) (fun r h' q => ?_), fun h1 hH1 E => ?_⟩
    · have P' := r'.2 s' sI'
      rw [FC_one F F', MC_one M M'] at P'
      exact P'
    · obtain ⟨⟨v, e, rfl⟩, rfl⟩ := q
      exact ⟨by rw [negB_of hB7 e], by rw [s_set_ne (by decide)]; exact F.2.2.2.2.2.2, vO_43 vO_rfl (by decide)⟩
    · obtain ⟨Rm, hRm⟩ := RA_of hH1 (p := 61) (Or.inr rfl)
      refine sDo_mono (s_lay12n (B := B) (d := 10) (by omega) (MC_vO M E) hRm sJ (fun z => wt z h1 hH1 E) ?_) (fun r h' q => ?_)
      · rcases hx with ⟨y, e⟩ | ⟨y, e⟩
        · exact Or.inl ⟨y.imp hb.mp id, e⟩
        · exact Or.inr ⟨⟨Classical.byContradiction (fun z => y.1 (hb.mpr z)), y.2⟩, e⟩
      · obtain ⟨⟨v, e, rfl⟩, rfl⟩ := q
        exact ⟨by rw [negB_of hB7 e], by rw [s_set_ne (by decide)]; exact (MC_vO M E).2.2.1⟩
  have em : (-1 : Int32).toInt = -1 := rfl
  by_cases hS : 0 ≤ sh.toInt ∧ sh.toInt < 8
  · obtain ⟨S, hs⟩ : ∃ S : Nat, sh.toInt = S := ⟨sh.toInt.toNat, by omega⟩
    have hno := s_noCutIn (d := 9) (by omega) h0 q4 bs hs (by omega)
    have wt : ∀ h1, bH h1 → vO h h1 → sDo 9 184 [.ref 60, .int sh, .int (Int32.ofInt 2)] h1 (fun r h' => h' = h1 ∧ r = some (.int (ncS hd S))) := fun h1 hH1 E => sDo_mono (s_wantsE (d := 9) (w := Int32.ofInt 2) (by omega) (vO_at E M.1 (by decide)) (vO_at E a4 (by decide)) (Or.inr rfl)) (fun r h' q => ⟨q.1, by
      rcases q.2 with ⟨-, q2⟩ | ⟨y, -⟩
      · rw [q2, show sh.toInt.toNat = S by omega]
        unfold wtS ncS
        rcases hd_3 (bs S (by omega)) with e | e | e
        · rw [e]; rfl
        · rw [e]; rfl
        · rw [e]; rfl
      · exact absurd hS y⟩)
    by_cases h2 : hd S = 2
    · obtain ⟨pc, C, hpc, hg, a, hc, hx⟩ := cut_at (bs S (by omega)) h2
      have e0 : ncS hd S = 0 := by unfold ncS; rw [if_pos h2]
      rw [e0] at hno wt
      by_cases ho : (∃ k, okO s.2.2 i k) ∧ (∃ k, okO s.2.2 j k)
      · obtain ⟨⟨k1, o1⟩, ⟨k2, o2⟩⟩ := ho
        have PL := PT_lay (W := s.1) (n := s.1 * s.2.1) (C := C) (T := zrF T 7) hn.1 n5 (fun k hk => if_pos hk) o1 o2
        have PL2 : PT (cpL (lyT (zrF T 7) s.1 (s.1 * s.2.1) C k1 k2) c.2.2.2.2.2.2 7) (fun q => if q < s.1 * s.2.1 then lyO s.1 C i j q else m.2.2.1 q) (s.1 * s.2.1) := PT_ext hn.1 (fun k hk => if_pos hk) (fun q hq => if_pos hq) PL
        refine ⟨_, cpL (lyT (zrF T 7) s.1 (s.1 * s.2.1) C k1 k2) c.2.2.2.2.2.2 7, (fun q => if q < s.1 * s.2.1 then lyO s.1 C i j q else m.2.2.1 q), fun c' m' s' r' F' M' sI' => ?_, QO_new M sJ (fun q _ => by
          show (if q < s.1 * s.2.1 then lyO s.1 C i j q else m.2.2.1 q) = m.2.2.1 q ∨ ∃ k, okO s.2.2 (if q < s.1 * s.2.1 then lyO s.1 C i j q else m.2.2.1 q) k
          by_cases y : q < s.1 * s.2.1
          · rw [if_pos y]
            unfold lyO
            by_cases y2 : sdC s.1 C q = 2
            · rw [if_pos y2]; exact Or.inr ⟨5, Or.inl ⟨rfl, rfl⟩⟩
            · rw [if_neg y2]
              by_cases y0 : sdC s.1 C q = 0
              · rw [if_pos y0]; exact Or.inr ⟨k1, o1⟩
              · rw [if_neg y0]; exact Or.inr ⟨k2, o2⟩
          · rw [if_neg y]; exact Or.inl rfl), sDo_mono (s_lay11 (d := 10) (by omega) h0 F g sI a3 hs (by omega) hg hc a hpc hx hno o1 o2 s42) (fun r h' q => ⟨q.1, by rw [q.2]; exact s_set_eq (by rw [s_set_ne (by decide)]; exact F.2.2.2.2.2.2), by rw [q.2]; exact vO_15 (vO_43 vO_rfl (by decide))⟩), fun h1 hH1 E => sDo_mono (s_lay12 (d := 10) (by omega) (MC_vO M E) gM sJ (vO_at E a7 (by decide)) hs (by omega) hx hc (wt h1 hH1 E) ⟨k1, o1⟩ ⟨k2, o2⟩) (fun r h' q => ⟨?_, by rw [q.2]; exact s_set_eq (MC_vO M E).2.2.1⟩)⟩
        · rw [sg_one F F' sI sI']
          exact PL2
        · rw [q.1, tk_ch hn.1 PO PL]
      · refine refd 0 1 hno (fun _ h1 hH1 E => wt h1 hH1 E) ⟨fun z => absurd z (by decide), fun z => absurd hS z⟩ (by decide) (Or.inl ⟨Or.inr (Classical.byContradiction (fun z => ho ⟨Classical.byContradiction (fun y => z (Or.inl y)), Classical.byContradiction (fun y => z (Or.inr y))⟩)), rfl⟩)
    · obtain ⟨B, hB, eB⟩ := nc_b (hd := hd) (S := S) (by
        rcases hd_3 (bs S (by omega)) with e | e | e
        · exact Or.inl e
        · exact Or.inr e
        · exact absurd e h2)
      have hb1 : (ncS hd S).toInt = -1 ↔ ¬ (0 ≤ sh.toInt ∧ sh.toInt < 8) := ⟨fun z => by omega, fun z => absurd hS z⟩
      by_cases ho : (∃ k, okO s.2.2 i k) ∧ (∃ k, okO s.2.2 j k)
      · exact refd _ B hno (fun _ h1 hH1 E => wt h1 hH1 E) hb1 (by omega) (Or.inr ⟨⟨by omega, ho.1, ho.2⟩, eB, by omega, by omega⟩)
      · exact refd _ 1 hno (fun _ h1 hH1 E => wt h1 hH1 E) hb1 (by decide) (Or.inl ⟨Or.inr (Classical.byContradiction (fun z => ho ⟨Classical.byContradiction (fun y => z (Or.inl y)), Classical.byContradiction (fun y => z (Or.inr y))⟩)), rfl⟩)
  · exact refd (-1) 1 (s_noCutOX (d := 7) hS) (fun z => absurd z hS) ⟨fun _ => hS, fun _ => em⟩ (by decide) (Or.inl ⟨Or.inl em, rfl⟩))
theorem prq_owners (sh : Int32) : pairR (fun h => bR9 h ∧ bOw h) 135 218 [.int sh] := pr_wQ (c1 := cn_X11_owners_0) (c2 := cn_X12_owners_0) ch_X11_owners_0 ch_X12_owners_0 (by decide +kernel) (by decide +kernel) (by decide +kernel) (by decide +kernel) rfl rfl (fun h hH => ⟨bt0 hH, vI0 sh, trivial⟩) (fun h hH => ⟨bt60 hH, vI0 sh, trivial⟩) (by decide +kernel) (by decide +kernel) (fun h hH hR => by
  obtain ⟨⟨hd, so, sz, co, cl, f, gg, q4, bs⟩, c, ck, m, gk, ik, tf, kc, km, ej, rl, rk⟩ := hR
  have F := kc.1
  have h0 := kc.2.2.1
  have M := km.1
  obtain ⟨R, hR43⟩ := RA_of hH (p := 43) (Or.inl rfl)
  obtain ⟨s, sI, sJ, g, gM⟩ := RN_sg rl.1.1
  have n5 := sI.2.2.2.2.2.2.2
  have hn := gdF_n g
  have PO := rl.2 s sI
  have gd := gM
  obtain ⟨-, -, w2, w8, -, h8⟩ := gd
  obtain ⟨T, s42⟩ : ∃ T : Nat → Int64, h[42]? = some (.inl (1, 7, .inr (.inl T))) := bA60L hH (p := 42) (by decide) rfl
  have q4' := q4
  obtain ⟨a1, a2, a3, a4, a5, a6, a7, a8⟩ := q4'
  have refd : ∀ (b : Int32) (B : Nat), b.toInt = -(B : Int) → (1 ≤ B ∧ B ≤ 7) → sDo 9 161 [.ref 0, .int sh] h (fun r h' => h' = h ∧ r = some (.int b)) → (∀ h1, bH h1 → vO h h1 → sDo 9 184 [.ref 60, .int sh, .int (Int32.ofInt 1)] h1 (fun r h' => h' = h1 ∧ r = some (.int b))) → ∃ (v : Value) (S' : Nat → Int64) (ow' : Nat → Int32), (∀ c m s, RO c m → FC h 5 c → MC h m → sgI c s → PT S' ow' (s.1 * s.2.1)) ∧ (∀ m, MC h m → QO m → ∀ q, q < 64 → oOk (m.1 6) (ow' q)) ∧ sDo 10 135 [.ref 0, .int sh] h (fun r h1 => r = some v ∧ h1[15]? = some (.inl (1, 7, .inr (.inl S'))) ∧ vO h h1) ∧ ∀ h1, bH h1 → vO h h1 → sDo 10 218 [.ref 60, .int sh] h1 (fun r h2 => r = some v ∧ h2[63]? = some (.inl (0, 64, .inl ow'))) := by
    intro b B hb hB hno wt
    refine ⟨.int b, c.2.2.2.2.2.2, m.2.2.1, fun c' m' s' r' F' M' sI' => ?_, QO_keep M, sDo_mono (s_ows11n (d := 10) (by omega) h0 hR43 hb hB hno) (fun r h' q => ⟨q.1, by rw [q.2, s_set_ne (by decide)]; exact F.2.2.2.2.2.2, by rw [q.2]; exact vO_43 vO_rfl (by decide)⟩), fun h1 hH1 E => ?_⟩
    · have P' := r'.2 s' sI'
      rw [FC_one F F', MC_one M M'] at P'
      exact P'
    · obtain ⟨Rm, hRm⟩ := RA_of hH1 (p := 61) (Or.inr rfl)
      exact sDo_mono (s_ows12n (d := 10) (by omega) (MC_vO M E) hRm hb hB (wt h1 hH1 E)) (fun r h' q => ⟨q.1, by rw [q.2, s_set_ne (by decide)]; exact (MC_vO M E).2.2.1⟩)
  have wts : ∀ (S : Nat), sh.toInt = S → S < 8 → ∀ h1, bH h1 → vO h h1 → sDo 9 184 [.ref 60, .int sh, .int (Int32.ofInt 1)] h1 (fun r h' => h' = h1 ∧ r = some (.int (nrOf hd S))) := fun S hs hS h1 hH1 E => sDo_mono (s_wantsE (d := 9) (w := Int32.ofInt 1) (by omega) (vO_at E M.1 (by decide)) (vO_at E a4 (by decide)) (Or.inl rfl)) (fun r h' q => ⟨q.1, by
    rcases q.2 with ⟨-, q2⟩ | ⟨y, -⟩
    · rw [q2, show sh.toInt.toNat = S by omega]
      unfold wtS nrOf
      rcases hd_3 (bs S (by omega)) with e | e | e
      · rw [e]; rfl
      · rw [e]; rfl
      · rw [e]; rfl
    · exact absurd (by omega) y⟩)
  by_cases hS : 0 ≤ sh.toInt ∧ sh.toInt < 8
  · obtain ⟨S, hs⟩ : ∃ S : Nat, sh.toInt = S := ⟨sh.toInt.toNat, by omega⟩
    obtain ⟨ot, z, el, b1, b2, b3⟩ := bs S (by omega)
    have hno := s_noIn (d := 7) (el := el) hH q4 hs (by omega) b1 b3
    have wt := wts S hs (by omega)
    have nr0 : hd S = 1 → nrOf hd S = 0 := fun e => by unfold nrOf; rw [if_pos e]
    have nrb : ¬ hd S = 1 → ∃ B : Nat, (2 ≤ B ∧ B ≤ 3) ∧ (nrOf hd S).toInt = -(B : Int) := fun e => by
      unfold nrOf
      rw [if_neg e]
      rcases hd_3 (bs S (by omega)) with y | y | y
      · rw [y]; exact ⟨3, by decide, by decide⟩
      · exact absurd y e
      · rw [y]; exact ⟨2, by decide, by decide⟩
    by_cases e1 : hd S = 1
    · rw [nr0 e1] at hno wt
      rcases b3 with ⟨e, -⟩ | ⟨-, -, eo, o0, o3, ez, z0, z100, eel⟩ | ⟨e, -⟩
      · rw [e1] at e; exact absurd e (by decide)
      · obtain ⟨n, hnn⟩ : ∃ n : Nat, z.toInt = n := ⟨z.toInt.toNat, by omega⟩
        have hz : z = Int32.ofNat n := Int32.toInt_inj.mp (by rw [hnn, ofN_toInt (by omega)])
        have RT1 : RT cl S n (tx el n) := ⟨by omega, by omega, fun i hi => by
            unfold tx
            rw [if_pos hi, eel i (by omega)], fun i hi => if_neg (by omega)⟩
        rw [hz] at b1
        have PL : PT (fun j => if j < 7 then stO (fun q => decide (ovO s.2.2 (tx el n) n q = cdS j)) (s.1 * s.2.1) else T j) (ovO s.2.2 (tx el n) n) (s.1 * s.2.1) := ⟨fun k hk => if_pos hk, fun q _ => by obtain ⟨k, hk⟩ := ovO_ok (N := s.2.2) (T := tx el n) (n := n) (q := q); exact ⟨k, okO_c n5 hk⟩⟩
        have PL2 : PT (cpL (fun j => if j < 7 then stO (fun q => decide (ovO s.2.2 (tx el n) n q = cdS j)) (s.1 * s.2.1) else T j) c.2.2.2.2.2.2 7) (ovO s.2.2 (tx el n) n) (s.1 * s.2.1) := PT_ext hn.1 (fun k hk => if_pos hk) (fun _ _ => rfl) PL
        have hcc := hc_cnt (N := s.2.2) hn.1 n5 PL2 (fun q _ => ovO_ok)
        refine ⟨_, cpL (fun j => if j < 7 then stO (fun q => decide (ovO s.2.2 (tx el n) n q = cdS j)) (s.1 * s.2.1) else T j) c.2.2.2.2.2.2 7, (fun q => if q < s.1 * s.2.1 then ovO s.2.2 (tx el n) n q else m.2.2.1 q), fun c' m' s' r' F' M' sI' => ?_, QO_new M sJ (fun q _ => by
          show (if q < s.1 * s.2.1 then ovO s.2.2 (tx el n) n q else m.2.2.1 q) = m.2.2.1 q ∨ ∃ k, okO s.2.2 (if q < s.1 * s.2.1 then ovO s.2.2 (tx el n) n q else m.2.2.1 q) k
          by_cases y : q < s.1 * s.2.1
          · rw [if_pos y]; exact Or.inr ovO_ok
          · rw [if_neg y]; exact Or.inl rfl), sDo_mono (s_ows11 (d := 10) (by omega) h0 F g sI a1 hs (by omega) (a2 S (by omega)) b1 b2 (by omega) s42 hno) (fun r h' q => ⟨q.1, by rw [q.2]; exact s_set_eq (by rw [s_set_ne (by decide)]; exact F.2.2.2.2.2.2), by rw [q.2]; exact vO_15 (vO_43 vO_rfl (by decide))⟩), fun h1 hH1 E => sDo_mono (s_ows12 (d := 10) (by omega) (MC_vO M E) gM sJ (vO_at E a6 (by decide)) (vO_at E a8 (by decide)) hs (by omega) (by rw [← ez, hz]) (by omega) RT1 (wt h1 hH1 E)) (fun r h' q => ⟨?_, by rw [q.2]; exact s_set_eq (MC_vO M E).2.2.1⟩)⟩
        · rw [sg_one F F' sI sI']
          exact PT_ext hn.1 (fun _ _ => rfl) (fun q hq => if_pos hq) PL2
        · rw [q.1, hcc]
      · rw [e1] at e; exact absurd e (by decide)
    · obtain ⟨B, hB, eB⟩ := nrb e1
      exact refd _ B eB (by omega) hno wt
  · refine refd (-1) 1 (by decide) (by decide) (s_noOut (d := 7) hS) (fun h1 hH1 E => sDo_mono (s_wantsE (d := 9) (w := Int32.ofInt 1) (by omega) (vO_at E M.1 (by decide)) (vO_at E a4 (by decide)) (Or.inl rfl)) (fun r h' q => ⟨q.1, by
      rcases q.2 with ⟨y, -⟩ | ⟨-, q2⟩
      · exact absurd y hS
      · exact q2⟩)))
theorem prq_mend (x : Int32) : pairR (fun h => bR9 h ∧ bOw h) 147 242 [.int x] := pr_wQ (c1 := cn_X11_mend_0) (c2 := cn_X12_mend_0) ch_X11_mend_0 ch_X12_mend_0 (by decide +kernel) (by decide +kernel) (by decide +kernel) (by decide +kernel) rfl rfl (fun h hH => ⟨bt0 hH, vI0 x, trivial⟩) (fun h hH => ⟨bt60 hH, vI0 x, trivial⟩) (by decide +kernel) (by decide +kernel) (fun h hH hR => by
  obtain ⟨⟨hd, so, sz, co, cl, f, gg, q4, bs⟩, c, ck, m, gk, ik, tf, kc, km, ej, rl, rk⟩ := hR
  have F := kc.1
  have h0 := kc.2.2.1
  have M := km.1
  obtain ⟨R, hR43⟩ := RA_of hH (p := 43) (Or.inl rfl)
  obtain ⟨s, sI, sJ, g, gM⟩ := RN_sg rl.1.1
  have n5 := sI.2.2.2.2.2.2.2
  have hn := gdF_n g
  have PO := rl.2 s sI
  have gd := gM
  obtain ⟨-, -, w2, w8, -, h8⟩ := gd
  obtain ⟨B, S1, S2, fc, ff, s38, s39, s40⟩ := SO_of2 hH
  obtain ⟨T, s41⟩ := trial_of hH
  by_cases hx : 1 ≤ x.toInt ∧ x.toInt ≤ 20
  · obtain ⟨n, hnx⟩ : ∃ n : Nat, x.toInt = n := ⟨x.toInt.toNat, by omega⟩
    have ex : x = Int32.ofNat n := Int32.toInt_inj.mp (by rw [hnx, ofN_toInt (by omega)])
    subst ex
    refine ⟨_, mdS m s n m.2.2.1 c.2.2.2.2.2.2, (mdW m s n m.2.2.1).2, fun c' m' s' r' F' M' sI' => ?_, fun m' M' q' => by rw [(MC_same M M').1.1]; exact md_QO hn.1 n5 sJ.2.2.1 n _ (fun q hq => by have y := q' q hq; rw [(MC_same M M').1.1, (MC_same M M').2] at y; exact y), s_mend11 (d := 10) (m := m) (by omega) h0 F g rl.1 sI PO s38 s41 (by omega) (by omega), fun h1 hH1 E => s_mend12 (d := 10) (by omega) (MC_vO M E) gM g rl.1 sI sJ PO.2 (by omega) (by omega)⟩
    rw [sg_one F F' sI sI']
    exact md_PT hn.1 n5 n _ _ PO
  · refine ⟨_, c.2.2.2.2.2.2, m.2.2.1, fun c' m' s' r' F' M' sI' => ?_, QO_keep M, sDo_mono (s_mend11n (d := 10) (by omega) h0 hR43 hx) (fun r h' q => ⟨q.1, by rw [q.2, s_set_ne (by decide)]; exact F.2.2.2.2.2.2, by rw [q.2]; exact vO_43 vO_rfl (by decide)⟩), fun h1 hH1 E => ?_⟩
    · have P' := r'.2 s' sI'
      rw [FC_one F F', MC_one M M'] at P'
      exact P'
    · obtain ⟨Rm, hRm⟩ := RA_of hH1 (p := 61) (Or.inr rfl)
      exact sDo_mono (s_mend12n (d := 10) (by omega) (MC_vO M E) hRm hx) (fun r h' q => ⟨q.1, by rw [q.2, s_set_ne (by decide)]; exact (MC_vO M E).2.2.1⟩))
theorem prq_two (x : Int32) : pairR (fun h => bR9 h ∧ bOw h) 141 235 [.int x] := pr_oQ (c1 := cn_X11_two_0) (c2 := cn_X12_two_0) ch_X11_two_0 ch_X12_two_0 (by decide +kernel) (by decide +kernel) (by decide +kernel) (by decide +kernel) rfl rfl (fun h hH => ⟨bt0 hH, vI0 x, trivial⟩) (fun h hH => ⟨bt60 hH, vI0 x, trivial⟩) (by decide +kernel) (by decide +kernel) (fun h hH hR => by
  obtain ⟨⟨hd, so, sz, co, cl, f, gg, q4, bs⟩, c, ck, m, gk, ik, tf, kc, km, ej, rl, rk⟩ := hR
  have F := kc.1
  have h0 := kc.2.2.1
  have M := km.1
  obtain ⟨R, hR43⟩ := RA_of hH (p := 43) (Or.inl rfl)
  obtain ⟨s, sI, sJ, g, gM⟩ := RN_sg rl.1.1
  have n5 := sI.2.2.2.2.2.2.2
  have hn := gdF_n g
  have PO := rl.2 s sI
  obtain ⟨B, S1, S2, fc, ff, s38, s39, s40⟩ := SO_of2 hH
  obtain ⟨T, s41⟩ := trial_of hH
  by_cases hx : s.2.2 = 2 ∧ 0 ≤ x.toInt ∧ x.toInt ≤ 2
  · refine ⟨_, m.2.2.1, M.2.2.1, sDo_mono (s_two11 (d := 10) (m := m) (by omega) h0 hR43 F g rl.1 sI s38 s39 s40 s41 hx.1 hx.2) (fun r h' q => q), fun h1 hH1 E => ?_⟩
    obtain ⟨Rm, hRm⟩ := RA_of hH1 (p := 61) (Or.inr rfl)
    obtain ⟨fc1, f76, -, -⟩ := bA60 hH1 (p := 76) (by decide) rfl
    obtain ⟨sp1, f77, -, -⟩ := bA60 hH1 (p := 77) (by decide) rfl
    exact s_two12 (d := 10) (by omega) (MC_vE M E) hRm gM g rl.1 sI sJ f76 f77 hx.1 hx.2
  · refine ⟨_, m.2.2.1, M.2.2.1, sDo_mono (s_two11n (d := 10) (by omega) h0 hR43 F g sI s38 s39 s40 s41 hx) (fun r h' q => q), fun h1 hH1 E => ?_⟩
    obtain ⟨Rm, hRm⟩ := RA_of hH1 (p := 61) (Or.inr rfl)
    exact s_two12n (d := 10) (by omega) (MC_vE M E) hRm sJ hx)
theorem prq_three (x : Int32) : pairR (fun h => bR9 h ∧ bOw h) 142 236 [.int x] := pr_oQ (c1 := cn_X11_three_0) (c2 := cn_X12_three_0) ch_X11_three_0 ch_X12_three_0 (by decide +kernel) (by decide +kernel) (by decide +kernel) (by decide +kernel) rfl rfl (fun h hH => ⟨bt0 hH, vI0 x, trivial⟩) (fun h hH => ⟨bt60 hH, vI0 x, trivial⟩) (by decide +kernel) (by decide +kernel) (fun h hH hR => by
  obtain ⟨⟨hd, so, sz, co, cl, f, gg, q4, bs⟩, c, ck, m, gk, ik, tf, kc, km, ej, rl, rk⟩ := hR
  have F := kc.1
  have h0 := kc.2.2.1
  have M := km.1
  obtain ⟨R, hR43⟩ := RA_of hH (p := 43) (Or.inl rfl)
  obtain ⟨s, sI, sJ, g, gM⟩ := RN_sg rl.1.1
  have n5 := sI.2.2.2.2.2.2.2
  have hn := gdF_n g
  have PO := rl.2 s sI
  obtain ⟨B, S1, S2, fc, ff, s38, s39, s40⟩ := SO_of2 hH
  obtain ⟨T, s41⟩ := trial_of hH
  by_cases hx : s.2.2 = 3 ∧ 0 ≤ x.toInt ∧ x.toInt ≤ 2
  · refine ⟨_, m.2.2.1, M.2.2.1, sDo_mono (s_three11 (d := 10) (m := m) (by omega) h0 hR43 F g rl.1 sI s38 s39 s40 s41 hx.1 hx.2) (fun r h' q => q), fun h1 hH1 E => ?_⟩
    obtain ⟨Rm, hRm⟩ := RA_of hH1 (p := 61) (Or.inr rfl)
    obtain ⟨fc1, f76, -, -⟩ := bA60 hH1 (p := 76) (by decide) rfl
    obtain ⟨sp1, f77, -, -⟩ := bA60 hH1 (p := 77) (by decide) rfl
    exact s_three12 (d := 10) (by omega) (MC_vE M E) hRm gM g rl.1 sI sJ f76 f77 hx.1 hx.2
  · refine ⟨_, m.2.2.1, M.2.2.1, sDo_mono (s_three11n (d := 10) (by omega) h0 hR43 F g sI s38 s39 s40 s41 hx) (fun r h' q => q), fun h1 hH1 E => ?_⟩
    obtain ⟨Rm, hRm⟩ := RA_of hH1 (p := 61) (Or.inr rfl)
    exact s_three12n (d := 10) (by omega) (MC_vE M E) hRm sJ hx)
theorem prq_better : pairR (fun h => bR9 h ∧ bOw h) 146 241 [] := pr_oQ (c1 := cn_X11_better_0) (c2 := cn_X12_better_0) ch_X11_better_0 ch_X12_better_0 (by decide +kernel) (by decide +kernel) (by decide +kernel) (by decide +kernel) rfl rfl (fun h hH => ⟨bt0 hH, trivial⟩) (fun h hH => ⟨bt60 hH, trivial⟩) (by decide +kernel) (by decide +kernel) (fun h hH hR => by
  obtain ⟨⟨hd, so, sz, co, cl, f, gg, q4, bs⟩, c, ck, m, gk, ik, tf, kc, km, ej, rl, rk⟩ := hR
  have F := kc.1
  have h0 := kc.2.2.1
  have M := km.1
  obtain ⟨R, hR43⟩ := RA_of hH (p := 43) (Or.inl rfl)
  obtain ⟨s, sI, sJ, g, gM⟩ := RN_sg rl.1.1
  have n5 := sI.2.2.2.2.2.2.2
  have hn := gdF_n g
  have PO := rl.2 s sI
  obtain ⟨B, S1, S2, fc, ff, s38, s39, s40⟩ := SO_of2 hH
  obtain ⟨T, s41⟩ := trial_of hH
  refine ⟨_, m.2.2.1, M.2.2.1, sDo_mono (s_better11 (d := 10) (m := m) (by omega) h0 hR43 F g rl.1 sI PO s38 s41) (fun r h' q => q), fun h1 hH1 E => ?_⟩
  obtain ⟨Rm, hRm⟩ := RA_of hH1 (p := 61) (Or.inr rfl)
  exact s_better12 (d := 10) (by omega) (MC_vE M E) hRm gM g rl.1 sI sJ PO.2)
