/-! ===== by hand: many, grown, partsOf, hedgeOf ===== -/
theorem bFr0 {h h' : sHp} (a : bFr 0 0 h h') : h' = h := by
  apply List.ext_getElem?
  intro i
  cases hc : h[i]? with
  | none =>
    have l := List.getElem?_eq_none_iff.mp hc
    have := a.2.1
    exact List.getElem?_eq_none_iff.mpr (by omega)
  | some c =>
    obtain ⟨c', h1, h2⟩ := a.2.2 i c hc
    rw [h1]
    rcases c with ⟨t, n, dd⟩ | ⟨ci, fs⟩ <;> rcases c' with ⟨t', n', dd'⟩ | ⟨ci', fs'⟩ <;> first | exact h2.elim | skip
    · obtain ⟨e1, e2, e3⟩ := h2
      rw [e1, e2, e3 (Nat.zero_testBit _)]
    · obtain ⟨e1, -, e3, -⟩ := h2
      rw [e1, List.ext_getElem? (fun j => e3 j (Nat.zero_testBit _))]
theorem bH_at {h : sHp} (hH : bH h) {p : Nat} (hp : p < 79) : ∃ c ct, h[p]? = some c ∧ bGam (bKp p c) = some ct ∧ bCm h ct c := by
  have := hH.1
  obtain ⟨ct, h1, h2⟩ := hH.2.1 p _ (List.getElem?_eq_getElem (show p < h.length by omega))
  exact ⟨_, ct, List.getElem?_eq_getElem (by omega), h1, h2⟩
theorem bKp_at {p : Nat} (hp : p < 79) (c c' : va_E) : bKp p c = bKp p c' := by
  unfold bKp
  have e : p < bKl.length := hp
  rw [List.getElem?_eq_getElem e]
theorem bIn_at79 {h : sHp} (hH : bH h) {p K : Nat} (hp : p < 79) (hk : bKp p (.inr (0, [])) = K) : bIn h K p := by
  obtain ⟨c, ct, h1, -, -⟩ := bH_at hH hp
  refine Or.inl ⟨c, h1, ?_⟩
  rw [bKp_at hp c (.inr (0, [])), hk]
  unfold bKK
  rw [aBq, decide_eq_true rfl]; rfl
/-- the reference's object -/
theorem bObj60 {h : sHp} (hH : bH h) : ∃ fs : List Value, h[60]? = some (.inr (12, fs)) ∧ ∀ (ct : bCt) (tys : List bTy), bGam 60 = some ct → ct = .inr (12, tys) → ∀ (j : Nat) (ty : bTy), tys[j]? = some ty → ∃ v : Value, fs[j]? = some v ∧ bT h ty v := by
  obtain ⟨c, ct, h1, h2, h3⟩ := bH_at hH (p := 60) (by decide)
  rw [bKp_at (by decide) c (.inr (0, []))] at h2
  have h4 : ∃ tys, ct = .inr (12, tys) := by
    have e : (bGam (bKp 60 (.inr (0, [])))).map (fun c => c.elim (fun _ => 0) (fun q => q.1 + 1)) = some 13 := by decide +kernel
    rw [h2] at e
    rcases ct with q | q
    · exact absurd (Option.some.inj e) (by show ¬ ((0 : Nat) = 13); decide)
    · have e2 : q.1 + 1 = 13 := Option.some.inj e
      exact ⟨q.2, by rw [show (12 : Nat) = q.1 by omega]⟩
  obtain ⟨tys, rfl⟩ := h4
  obtain ⟨fs, rfl, -, e2⟩ := h3
  refine ⟨fs, h1, fun ct' tys' g1 g2 => ?_⟩
  subst g2
  have h2' : bGam 60 = some (.inr (12, tys)) := h2
  rw [h2'] at g1
  cases g1
  exact e2
theorem bF60 {h : sHp} {fs : List Value} (hH : bH h) (hf : h[60]? = some (.inr (12, fs))) {j : Nat} {ty : bTy} (hj : ((bGam 60).bind (fun c => c.elim (fun _ => none) (fun q => q.2[j]?))) = some ty) : ∃ v : Value, fs[j]? = some v ∧ bT h ty v := by
  obtain ⟨fs', e1, e2⟩ := bObj60 hH
  rw [hf] at e1
  cases e1
  obtain ⟨ct, e3, e4⟩ := Option.bind_eq_some_iff.mp hj
  rcases ct with q | q
  · cases e4
  · obtain ⟨ci, tys⟩ := q
    have e5 : ci = 12 := by
      have e : (bGam 60).map (fun c => c.elim (fun _ => 0) (fun q => q.1)) = some 12 := by decide +kernel
      rw [e3] at e
      exact Option.some.inj e
    subst e5
    exact e2 _ _ e3 rfl j ty e4
theorem bT_int {h : sHp} {lo hi : Int} {v : Value} (q : bT h (.inl (lo, hi)) v) : ∃ x, v = .int x ∧ lo ≤ x.toInt ∧ x.toInt ≤ hi := q
theorem bT_one {h : sHp} {K : Nat} {v : Value} (hK : K < 79) (hl : aNth bKl K = some K) (q : bT h (.inr (2, K)) v) : v = .ref K := by
  obtain ⟨p, rfl, hp⟩ := q
  rw [(bIn_one hK hl hp).1]
/-- an array of ints at its place -/
theorem bA60 {h : sHp} (hH : bH h) {p n : Nat} {lo hi : Int} {cs : List Int} (hp : p < 79) (hg : bGam (bKp p (.inr (0, []))) = some (.inl (0, n, .inl (lo, hi), cs))) : ∃ f, h[p]? = some (.inl (0, n, .inl f)) ∧ (∀ i, i < n → lo ≤ (f i).toInt ∧ (f i).toInt ≤ hi) ∧ (∀ i z, cs[i]? = some z → (f i).toInt = z) := by
  obtain ⟨c, ct, h1, h2, h3⟩ := bH_at hH hp
  rw [bKp_at hp c (.inr (0, [])), hg] at h2
  cases h2
  obtain ⟨f, rfl, h4⟩ := h3
  exact ⟨f, h1, h4⟩
theorem bA60L {h : sHp} (hH : bH h) {p n : Nat} {z : Nat} {cs : List Int} (hp : p < 79) (hg : bGam (bKp p (.inr (0, []))) = some (.inl (1, n, .inr (0, z), cs))) : ∃ f, h[p]? = some (.inl (1, n, .inr (.inl f))) := by
  obtain ⟨c, ct, h1, h2, h3⟩ := bH_at hH hp
  rw [bKp_at hp c (.inr (0, [])), hg] at h2
  cases h2
  obtain ⟨f, rfl⟩ := h3
  exact ⟨f, h1⟩
theorem i_in {x : Int32} {n : Nat} (h1 : 0 ≤ x.toInt) (h2 : x.toInt < n) : ¬ (x < 0 ∨ n ≤ x.toNatClampNeg) := by
  have e : (x.toNatClampNeg : Int) = x.toInt := by
    show ((x.toInt.toNat : Nat) : Int) = x.toInt
    omega
  intro z
  rcases z with z | z
  · have := Int32.lt_iff_toInt_lt.mp z
    have e0 : (0 : Int32).toInt = 0 := rfl
    omega
  · omega
theorem i_add {x y : Int32} (h1 : -2147483648 ≤ x.toInt + y.toInt) (h2 : x.toInt + y.toInt ≤ 2147483647) : (x + y).toInt = x.toInt + y.toInt := by
  rw [Int32.toInt_add]
  exact Int.bmod_eq_of_le (by omega) (by omega)
theorem i_sub {x y : Int32} (h1 : -2147483648 ≤ x.toInt - y.toInt) (h2 : x.toInt - y.toInt ≤ 2147483647) : (x - y).toInt = x.toInt - y.toInt := by
  rw [Int32.toInt_sub]
  exact Int.bmod_eq_of_le (by omega) (by omega)
theorem i_mul {x y : Int32} (h1 : -2147483648 ≤ x.toInt * y.toInt) (h2 : x.toInt * y.toInt ≤ 2147483647) : (x * y).toInt = x.toInt * y.toInt := by
  rw [Int32.toInt_mul]
  exact Int.bmod_eq_of_le (by omega) (by omega)
theorem i_ofI (n : Int) (h1 : -2147483648 ≤ n) (h2 : n ≤ 2147483647) : (Int32.ofInt n).toInt = n := b_iconst h1 h2
theorem i_lt {x y : Int32} : x < y ↔ x.toInt < y.toInt := Int32.lt_iff_toInt_lt
theorem i_le {x y : Int32} : x ≤ y ↔ x.toInt ≤ y.toInt := Int32.le_iff_toInt_le
theorem i64_ne {l : Int64} (h : ¬ lg_cmp l (Int64.ofNat 0) = 0) : l.toBitVec ≠ 0#64 := fun e => h (by
  have e1 : l = Int64.ofNat 0 := Int64.toBitVec_inj.mp e
  rw [e1]; rfl)
theorem i64_eq {l m : Int64} (h : lg_cmp l m = 0) : l = m := by
  unfold lg_cmp at h
  split at h
  · exact absurd h (by decide)
  · split at h
    · assumption
    · exact absurd h (by decide)
theorem i64_neq {l m : Int64} (h : ¬ lg_cmp l m = 0) : l ≠ m := fun e => h (by
  subst e
  unfold lg_cmp
  rw [if_neg Int64.lt_irrefl, if_pos rfl])
theorem i64_dec {l : Int64} (h : l.toBitVec ≠ 0#64) : (l &&& (l - Int64.ofNat 1)).toBitVec.toNat < l.toBitVec.toNat := by
  show (l.toBitVec &&& (l.toBitVec - 1#64)).toNat < l.toBitVec.toNat
  generalize l.toBitVec = b at h
  have h0 : b.toNat ≠ 0 := fun e => h (BitVec.eq_of_toNat_eq e)
  rw [BitVec.toNat_and, BitVec.toNat_sub]
  have hb := b.isLt
  have e1 : (1#64).toNat = 1 := rfl
  have e2 : (2 ^ 64 - (1#64).toNat + b.toNat) % 2 ^ 64 = b.toNat - 1 := by rw [e1]; omega
  rw [e2]
  exact Nat.lt_of_le_of_lt Nat.and_le_right (by omega)
/-- the lowest bit of a set that is not empty -/
theorem i64_low {b : BitVec 64} (h : b ≠ 0#64) : b &&& -b ≠ 0#64 := by
  intro e
  have h1 := BitVec.add_eq_or_of_and_eq_zero b (-b) e
  rw [BitVec.add_right_neg] at h1
  apply h
  apply BitVec.eq_of_getLsbD_eq
  intro i hi
  have h2 := congrArg (fun z => z.getLsbD i) h1
  rw [BitVec.getLsbD_or] at h2
  cases hb : b.getLsbD i with
  | false => rw [BitVec.getLsbD_zero]
  | true => rw [hb, BitVec.getLsbD_zero, Bool.true_or] at h2; cases h2
theorem i64_cut {b r : BitVec 64} (h : b ≠ 0#64) (hr : (b &&& -b) &&& r = b &&& -b) : (b &&& (r ^^^ BitVec.allOnes 64)).toNat < b.toNat := by
  have hle : (b &&& (r ^^^ BitVec.allOnes 64)).toNat ≤ b.toNat := by
    rw [BitVec.toNat_and]
    exact Nat.and_le_left
  refine Nat.lt_of_le_of_ne hle (fun e => ?_)
  have e := BitVec.eq_of_toNat_eq e
  apply i64_low h
  apply BitVec.eq_of_getLsbD_eq
  intro i hi
  have h1 := congrArg (fun z => z.getLsbD i) e
  have h2 := congrArg (fun z => z.getLsbD i) hr
  rw [BitVec.getLsbD_and, BitVec.getLsbD_xor] at h1
  rw [BitVec.getLsbD_and, BitVec.getLsbD_and] at h2
  rw [BitVec.getLsbD_and, BitVec.getLsbD_zero]
  have h3 : (BitVec.allOnes 64).getLsbD i = true := by rw [BitVec.getLsbD_allOnes]; exact decide_eq_true hi
  rw [h3] at h1
  cases hb : b.getLsbD i <;> cases hq : (-b).getLsbD i <;> cases hr' : r.getLsbD i <;> simp_all

theorem s_many_go {d : Nat} {h : sHp} {a : Nat} {x : Int64} {Q : Option Value → sHp → Prop} (hQ : ∀ n, Q (some (.int n)) h) : ∀ (N : Nat) (l : Int64) (n : Int32), l.toBitVec.toNat < N → sGo none 176 d 5 [some (.ref a), some (.long x), none, some (.int n), some (.long l), none] [] h Q := by
  intro N
  induction N with
  | zero => intro l n hl; omega
  | succ N ih =>
    intro l n hl
    refine g_lload (i := 4) rfl rfl ?_
    refine g_lconst (n := 0) rfl ?_
    refine g_lcmp rfl ?_
    refine g_if_eq 27 rfl rfl (fun hc => ?_) (fun hc => ?_)
    · skip
      refine g_iload_n (i := 3) rfl rfl ?_
      refine g_ireturn (ty := .int) rfl rfl rfl ?_
      exact hQ _
    · skip
      refine g_iinc (i := 3) (L1 := [some (.ref a), some (.long x), none, some (.int (n + Int32.ofInt 1)), some (.long l), none]) rfl rfl rfl ?_
      refine g_lload (i := 4) rfl rfl ?_
      refine g_lload (i := 4) rfl rfl ?_
      refine g_lconst (n := 1) rfl ?_
      refine g_lsub rfl ?_
      refine g_land rfl ?_
      refine g_lstore (i := 4) (L1 := [some (.ref a), some (.long x), none, some (.int (n + Int32.ofInt 1)), some (.long (l &&& (l - (Int64.ofNat 1)))), none]) rfl (Nat.le_of_ble_eq_true rfl) rfl ?_
      refine g_goto 5 rfl rfl ?_
      exact ih _ _ (by have := i64_dec (i64_ne hc); omega)
theorem s_many {d : Nat} {h : sHp} {a : Nat} (x : Int64) : sDo (d + 1) 176 [.ref a, .long x] h (fun r h' => h' = h ∧ ∃ n, r = some (.int n)) := by
  refine sDo_of (nL := 6) (L := [some (.ref a), some (.long x), none, none, none, none]) rfl rfl ?_
  refine g_iconst (n := 0) rfl ?_
  refine g_istore_n (i := 3) (L1 := [some (.ref a), some (.long x), none, some (.int (Int32.ofInt 0)), none, none]) rfl (Nat.le_of_ble_eq_true rfl) rfl ?_
  refine g_lload_n (i := 1) rfl rfl ?_
  refine g_lstore (i := 4) (L1 := [some (.ref a), some (.long x), none, some (.int (Int32.ofInt 0)), some (.long x), none]) rfl (Nat.le_of_ble_eq_true rfl) rfl ?_
  exact s_many_go (fun n => ⟨rfl, n, rfl⟩) _ _ _ (Nat.lt_succ_self _)
theorem s_beside {h : sHp} (hH : bH h) (x : Int64) : sDo 4 222 [.ref 60, .long x] h (fun r h' => h' = h ∧ ∃ y, r = some (.long y)) := by
  refine sDo_up (d := cn_X12_beside_0.2.1) (by decide) (sDo_mono (ch_X12_beside_0 h [.ref 60, .long x] hH ⟨⟨60, rfl, bIn_at79 hH (by decide) rfl⟩, ⟨x, rfl⟩, trivial⟩ (fun e he => by cases he)) (fun r h' q => ?_))
  obtain ⟨-, q2, po, hpo, q4, -⟩ := q
  refine ⟨bFr0 q2, ?_⟩
  cases List.mem_singleton.mp hpo
  obtain ⟨v, rfl, y, rfl⟩ := q4
  exact ⟨y, rfl⟩
theorem bv_gt {a b : BitVec 64} (h : a ||| b ≠ a) : a.toNat < (a ||| b).toNat := by
  refine Nat.lt_of_le_of_ne ?_ (fun e => h (BitVec.eq_of_toNat_eq e).symm)
  rw [BitVec.toNat_or]
  exact Nat.left_le_or
theorem s_grown_go {d : Nat} (hd : 4 ≤ d) {h : sHp} {x m : Int64} {Q : Option Value → sHp → Prop} (hH : bH h) (hQ : ∀ y : Int64, (∃ z, y = (x &&& m) ||| z) → Q (some (.long y)) h) : ∀ (N : Nat) (i nx : Int64), (∃ z, i = (x &&& m) ||| z) → (∃ z, nx = i ||| z) → 2 ^ 64 - i.toBitVec.toNat < N → sGo none 223 d 18 [some (.ref 60), some (.long x), none, some (.long m), none, some (.long i), none, some (.long nx), none] [] h Q := by
  obtain ⟨fs, hf, -⟩ := bObj60 hH
  obtain ⟨d, rfl⟩ : ∃ d', d = d' + 4 := ⟨d - 4, by omega⟩
  intro N
  induction N with
  | zero => intro i nx _ _ hl; omega
  | succ N ih =>
    intro i nx hi hn hl
    refine g_lload (i := 7) rfl rfl ?_
    refine g_lload (i := 5) rfl rfl ?_
    refine g_lcmp rfl ?_
    refine g_if_eq 46 rfl rfl (fun hc => ?_) (fun hc => ?_)
    · skip
      refine g_lload (i := 5) rfl rfl ?_
      refine g_lreturn rfl rfl ?_
      exact hQ _ hi
    · skip
      refine g_lload (i := 7) rfl rfl ?_
      refine g_lstore (i := 5) (L1 := [some (.ref 60), some (.long x), none, some (.long m), none, some (.long nx), none, some (.long nx), none]) rfl (Nat.le_of_ble_eq_true rfl) rfl ?_
      refine g_lload (i := 5) rfl rfl ?_
      refine g_aload_n (i := 0) rfl rfl ?_
      refine g_lload (i := 5) rfl rfl ?_
      refine g_virt1 (Qc := fun r h' => h' = h ∧ ∃ y, r = some (.long y)) rfl (by decide) rfl hf rfl (Nat.le_of_ble_eq_true rfl) (sDo_up (by omega) (s_beside hH _)) (fun r h1 hq => ?_)
      obtain ⟨rfl, y, rfl⟩ := hq
      refine g_lload_n (i := 3) rfl rfl ?_
      refine g_land rfl ?_
      refine g_lor rfl ?_
      refine g_lstore (i := 7) (L1 := [some (.ref 60), some (.long x), none, some (.long m), none, some (.long nx), none, some (.long (nx ||| (y &&& m))), none]) rfl (Nat.le_of_ble_eq_true rfl) rfl ?_
      refine g_goto 18 rfl rfl ?_
      have hne := i64_neq hc
      obtain ⟨z, rfl⟩ := hn
      obtain ⟨z0, e0⟩ := hi
      refine ih _ _ ⟨z0 ||| z, by rw [e0, Int64.or_assoc]⟩ ⟨_, rfl⟩ ?_
      have h1 : i.toBitVec ||| z.toBitVec ≠ i.toBitVec := fun q => hne (Int64.toBitVec_inj.mp q)
      have h2 := bv_gt h1
      have h3 : (i ||| z).toBitVec = i.toBitVec ||| z.toBitVec := rfl
      rw [h3]
      have := (i.toBitVec ||| z.toBitVec).isLt
      omega
theorem s_grown {d : Nat} {h : sHp} (hH : bH h) (x m : Int64) : sDo (d + 5) 223 [.ref 60, .long x, .long m] h (fun r h' => h' = h ∧ ∃ y z : Int64, y = (x &&& m) ||| z ∧ r = some (.long y)) := by
  obtain ⟨fs, hf, -⟩ := bObj60 hH
  refine sDo_of (d := d + 4) (nL := 9) (L := [some (.ref 60), some (.long x), none, some (.long m), none, none, none, none, none]) rfl rfl ?_
  refine g_lload_n (i := 1) rfl rfl ?_
  refine g_lload_n (i := 3) rfl rfl ?_
  refine g_land rfl ?_
  refine g_lstore (i := 5) (L1 := [some (.ref 60), some (.long x), none, some (.long m), none, some (.long (x &&& m)), none, none, none]) rfl (Nat.le_of_ble_eq_true rfl) rfl ?_
  refine g_lload (i := 5) rfl rfl ?_
  refine g_aload_n (i := 0) rfl rfl ?_
  refine g_lload (i := 5) rfl rfl ?_
  refine g_virt1 (Qc := fun r h' => h' = h ∧ ∃ y, r = some (.long y)) rfl (by decide) rfl hf rfl (Nat.le_of_ble_eq_true rfl) (sDo_up (by omega) (s_beside hH _)) (fun r h1 hq => ?_)
  obtain ⟨rfl, y, rfl⟩ := hq
  refine g_lload_n (i := 3) rfl rfl ?_
  refine g_land rfl ?_
  refine g_lor rfl ?_
  refine g_lstore (i := 7) (L1 := [some (.ref 60), some (.long x), none, some (.long m), none, some (.long (x &&& m)), none, some (.long ((x &&& m) ||| (y &&& m))), none]) rfl (Nat.le_of_ble_eq_true rfl) rfl ?_
  exact s_grown_go (by omega) hH (fun y ⟨z, hz⟩ => ⟨rfl, y, z, hz, rfl⟩) _ _ _ ⟨0, (Int64.or_zero).symm⟩ ⟨_, rfl⟩ (Nat.lt_succ_self _)
theorem s_parts_go {d : Nat} {h : sHp} {x : Int64} {Q : Option Value → sHp → Prop} (hH : bH h) (hQ : ∀ n, Q (some (.int n)) h) : ∀ (N : Nat) (l : Int64) (n : Int32), l.toBitVec.toNat < N → sGo none 224 (d + 5) 5 [some (.ref 60), some (.long x), none, some (.int n), some (.long l), none] [] h Q := by
  obtain ⟨fs, hf, -⟩ := bObj60 hH
  intro N
  induction N with
  | zero => intro l n hl; omega
  | succ N ih =>
    intro l n hl
    refine g_lload (i := 4) rfl rfl ?_
    refine g_lconst (n := 0) rfl ?_
    refine g_lcmp rfl ?_
    refine g_if_eq 39 rfl rfl (fun hc => ?_) (fun hc => ?_)
    · skip
      refine g_iload_n (i := 3) rfl rfl ?_
      refine g_ireturn (ty := .int) rfl rfl rfl ?_
      exact hQ _
    · skip
      refine g_lload (i := 4) rfl rfl ?_
      refine g_aload_n (i := 0) rfl rfl ?_
      refine g_lload (i := 4) rfl rfl ?_
      refine g_lload (i := 4) rfl rfl ?_
      refine g_lneg rfl ?_
      refine g_land rfl ?_
      refine g_lload (i := 4) rfl rfl ?_
      refine g_virt2 (Qc := fun r h' => h' = h ∧ ∃ y z : Int64, y = ((l &&& -l) &&& l) ||| z ∧ r = some (.long y)) rfl (by decide) rfl hf rfl (Nat.le_of_ble_eq_true rfl) (s_grown hH _ _) (fun r h1 hq => ?_)
      obtain ⟨rfl, y, z, hy, rfl⟩ := hq
      refine g_ldc2_w (j := 18446744073709551615) rfl ?_
      refine g_lxor rfl ?_
      refine g_land rfl ?_
      refine g_lstore (i := 4) (L1 := [some (.ref 60), some (.long x), none, some (.int n), some (.long (l &&& (y ^^^ (Int64.ofNat 18446744073709551615)))), none]) rfl (Nat.le_of_ble_eq_true rfl) rfl ?_
      refine g_iinc (i := 3) (L1 := [some (.ref 60), some (.long x), none, some (.int (n + Int32.ofInt 1)), some (.long (l &&& (y ^^^ (Int64.ofNat 18446744073709551615)))), none]) rfl rfl rfl ?_
      refine g_goto 5 rfl rfl ?_
      refine ih _ _ ?_
      have h1 : (l.toBitVec &&& -l.toBitVec) &&& y.toBitVec = l.toBitVec &&& -l.toBitVec := by
        rw [hy]
        show (l.toBitVec &&& -l.toBitVec) &&& (((l.toBitVec &&& -l.toBitVec) &&& l.toBitVec) ||| z.toBitVec) = _
        apply BitVec.eq_of_getLsbD_eq
        intro i hi
        simp only [BitVec.getLsbD_and, BitVec.getLsbD_or]
        cases l.toBitVec.getLsbD i <;> cases (-l.toBitVec).getLsbD i <;> cases z.toBitVec.getLsbD i <;> rfl
      have h2 := i64_cut (i64_ne hc) h1
      have h3 : (l &&& (y ^^^ Int64.ofNat 18446744073709551615)).toBitVec = l.toBitVec &&& (y.toBitVec ^^^ BitVec.allOnes 64) := rfl
      rw [h3]
      omega
theorem s_parts {d : Nat} {h : sHp} (hH : bH h) (x : Int64) : sDo (d + 6) 224 [.ref 60, .long x] h (fun r h' => h' = h ∧ ∃ n, r = some (.int n)) := by
  refine sDo_of (d := d + 5) (nL := 6) (L := [some (.ref 60), some (.long x), none, none, none, none]) rfl rfl ?_
  refine g_iconst (n := 0) rfl ?_
  refine g_istore_n (i := 3) (L1 := [some (.ref 60), some (.long x), none, some (.int (Int32.ofInt 0)), none, none]) rfl (Nat.le_of_ble_eq_true rfl) rfl ?_
  refine g_lload_n (i := 1) rfl rfl ?_
  refine g_lstore (i := 4) (L1 := [some (.ref 60), some (.long x), none, some (.int (Int32.ofInt 0)), some (.long x), none]) rfl (Nat.le_of_ble_eq_true rfl) rfl ?_
  exact s_parts_go hH (fun n => ⟨rfl, n, rfl⟩) _ _ _ (Nat.lt_succ_self _)
