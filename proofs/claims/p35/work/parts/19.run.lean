/-! ===== forks: more bounds, of which one holds ===== -/
def aNw (G : aG) (a : tM) (c : Int) : Bool := decide (-2147483648 ≤ (aIv 6 G a).1 + c) && decide ((aIv 6 G a).2 + c ≤ 2147483647)
def aDlo (x c : Int) : Int := if 0 < x then x * c else x * c - (c - 1)
def aDhi (y c : Int) : Int := if 0 ≤ y then y * c + (c - 1) else y * c
theorem a_tdv {v x y c : Int} (h : 0 < c) (h1 : x ≤ v.tdiv c) (h2 : v.tdiv c ≤ y) : aDlo x c ≤ v ∧ v ≤ aDhi y c := by
  have e := Int.tdiv_mul_add_tmod v c
  have m1 := Int.tmod_lt_of_pos v h
  have m2 := Int.tmod_lt_of_pos (-v) h
  rw [Int.neg_tmod] at m2
  have p1 : 0 ≤ v → 0 ≤ v.tmod c ∧ 0 ≤ v.tdiv c := fun q => ⟨Int.tmod_nonneg _ q, Int.tdiv_nonneg q (by omega)⟩
  have p2 : v ≤ 0 → v.tmod c ≤ 0 ∧ v.tdiv c ≤ 0 := fun q => by
    have q1 := Int.tmod_nonneg c (a := -v) (by omega)
    have q2 : 0 ≤ (-v).tdiv c := Int.tdiv_nonneg (by omega) (by omega)
    rw [Int.neg_tmod] at q1
    rw [Int.neg_tdiv] at q2
    omega
  have k1 : x * c ≤ v.tdiv c * c := Int.mul_le_mul_of_nonneg_right h1 (by omega)
  have k2 : v.tdiv c * c ≤ y * c := Int.mul_le_mul_of_nonneg_right h2 (by omega)
  unfold aDlo aDhi
  generalize v.tdiv c = q at *
  generalize v.tmod c = r at *
  generalize q * c = z at *
  generalize x * c = z1 at *
  generalize y * c = z2 at *
  refine ⟨?_, ?_⟩
  · split
    · by_cases hv : 0 ≤ v
      · have := p1 hv; omega
      · have := p2 (by omega); omega
    · by_cases hv : 0 ≤ v
      · have := p1 hv; omega
      · have := p2 (by omega); omega
  · split
    · by_cases hv : 0 ≤ v
      · have := p1 hv; omega
      · have := p2 (by omega); omega
    · by_cases hv : 0 ≤ v
      · have := p1 hv; omega
      · have := p2 (by omega); omega
def aEn : Nat → aG → tM → Int → Int → aG
  | 0, G, _, _, _ => G
  | n + 1, G, t, lo, hi => aFc (max (aIv 6 G t).1 lo) (fun x => aFc (min (aIv 6 G t).2 hi) (fun y => match t with
    | .add a (.int c) => bif aNw G a c.toInt then aEn n ((t, x, y) :: G) a (x - c.toInt) (y - c.toInt) else (t, x, y) :: G
    | .sub a (.int c) => bif aNw G a (-c.toInt) then aEn n ((t, x, y) :: G) a (x + c.toInt) (y + c.toInt) else (t, x, y) :: G
    | .div a (.int c) => bif decide (0 < c.toInt) then aEn n ((t, x, y) :: G) a (aDlo x c.toInt) (aDhi y c.toInt) else (t, x, y) :: G
    | _ => (t, x, y) :: G))
theorem aOk_cons {ι : aIn} {G : aG} {t : tM} {x y : Int} (hG : aOk ι G) (h1 : x ≤ aZ ι t) (h2 : aZ ι t ≤ y) : aOk ι ((t, x, y) :: G) := by
  intro e he
  rcases List.mem_cons.mp he with rfl | he
  · exact ⟨h1, h2⟩
  · exact hG e he
theorem aEn_ok {ι : aIn} : ∀ (n : Nat) {G : aG} {t : tM} {lo hi : Int}, aOk ι G → lo ≤ aZ ι t → aZ ι t ≤ hi → aOk ι (aEn n G t lo hi) := by
  intro n
  induction n with
  | zero => intro G t lo hi hG _ _; exact hG
  | succ n ih =>
    intro G t lo hi hG h1 h2
    have h0 := aIv_ok hG 6 t
    unfold aW at h0
    unfold aEn
    rw [aFc_eq, aFc_eq]
    have h3 : max (aIv 6 G t).1 lo ≤ aZ ι t := by omega
    have h4 : aZ ι t ≤ min (aIv 6 G t).2 hi := by omega
    generalize max (aIv 6 G t).1 lo = x at *
    generalize min (aIv 6 G t).2 hi = y at *
    have hG1 := aOk_cons hG h3 h4
    split
    · rename_i a c
      cases hw : aNw G a c.toInt with
      | false => exact hG1
      | true =>
        obtain ⟨w1, w2⟩ := aBa hw
        have w1 := of_decide_eq_true w1
        have w2 := of_decide_eq_true w2
        have ha := aIv_ok hG 6 a
        have e : aZ ι (.add a (.int c)) = aZ ι a + c.toInt := by
          unfold aW at ha
          show (vI (eT ι a) + c).toInt = _
          unfold aZ at ha ⊢
          rw [Int32.toInt_add]
          exact Int.bmod_eq_of_le (by omega) (by omega)
        rw [e] at h3 h4
        exact ih hG1 (by omega) (by omega)
    · rename_i a c
      cases hw : aNw G a (-c.toInt) with
      | false => exact hG1
      | true =>
        obtain ⟨w1, w2⟩ := aBa hw
        have w1 := of_decide_eq_true w1
        have w2 := of_decide_eq_true w2
        have ha := aIv_ok hG 6 a
        have e : aZ ι (.sub a (.int c)) = aZ ι a - c.toInt := by
          unfold aW at ha
          show (vI (eT ι a) - c).toInt = _
          unfold aZ at ha ⊢
          rw [Int32.toInt_sub]
          exact Int.bmod_eq_of_le (by omega) (by omega)
        rw [e] at h3 h4
        exact ih hG1 (by omega) (by omega)
    · rename_i a c
      cases hw : decide (0 < c.toInt) with
      | false => exact hG1
      | true =>
        have hc := of_decide_eq_true hw
        have e : aZ ι (.div a (.int c)) = (aZ ι a).tdiv c.toInt := Int32.toInt_div_of_ne_right _ _ (fun z => by
          have z1 : c = -1 := z
          rw [z1] at hc
          exact absurd hc (by decide))
        rw [e] at h3 h4
        have hd := a_tdv hc h3 h4
        exact ih hG1 hd.1 hd.2
    · exact hG1
def aSp (G : aG) (t : tM) (zs : List (Int × Int)) : List aG := match aIv 6 G t with
  | (p, q) => (zs.filter (fun z => decide (max z.1 p ≤ min z.2 q))).map (fun z => aEn 3 G t z.1 z.2)
def aCv (G : aG) (t : tM) (zs : List (Int × Int)) : Prop := ∀ v : Int, (aIv 6 G t).1 ≤ v → v ≤ (aIv 6 G t).2 → ∃ z ∈ zs, z.1 ≤ v ∧ v ≤ z.2
theorem aSp_ok {ι : aIn} {G : aG} {t : tM} {zs : List (Int × Int)} (hc : aCv G t zs) (hG : aOk ι G) : ∃ G' ∈ aSp G t zs, aOk ι G' := by
  have h0 := aIv_ok hG 6 t
  unfold aW at h0
  obtain ⟨z, hz, h1, h2⟩ := hc (aZ ι t) h0.1 h0.2
  unfold aSp
  split
  rename_i p q he
  rw [he] at h0
  dsimp only at h0
  refine ⟨aEn 3 G t z.1 z.2, List.mem_map.mpr ⟨z, List.mem_filter.mpr ⟨hz, decide_eq_true (by omega)⟩, rfl⟩, aEn_ok 3 hG h1 h2⟩
def aVz (lo : Int) : Nat → List (Int × Int)
  | 0 => []
  | n + 1 => (lo, lo) :: aVz (lo + 1) n
theorem aVz_ok : ∀ (n : Nat) (lo v : Int), lo ≤ v → v < lo + n → ∃ z ∈ aVz lo n, z.1 ≤ v ∧ v ≤ z.2 := by
  intro n
  induction n with
  | zero => intro lo v h1 h2; omega
  | succ n ih =>
    intro lo v h1 h2
    by_cases h : v = lo
    · exact ⟨(lo, lo), List.mem_cons_self, by dsimp only; omega, by dsimp only; omega⟩
    · obtain ⟨z, hz, h3⟩ := ih (lo + 1) v (by omega) (by omega)
      exact ⟨z, List.mem_cons_of_mem _ hz, h3⟩
def aVals (G : aG) (t : tM) : List aG := match aIv 6 G t with
  | (p, q) => bif decide (q - p ≤ 200) then aSp G t (aVz p (q - p + 1).toNat) else []
/-- some of these holds, or there is none -/
def aFo2 (ι : aIn) (l : List aG) : Prop := l ≠ [] → ∃ G' ∈ l, aOk ι G'
theorem aVals_ok {ι : aIn} {G : aG} (t : tM) (hG : aOk ι G) : aFo2 ι (aVals G t) := by
  unfold aVals
  split
  rename_i p q he
  cases hd : decide (q - p ≤ 200) with
  | false => intro h; exact absurd rfl h
  | true =>
    intro _
    refine aSp_ok (fun v h1 h2 => ?_) hG
    rw [he] at h1 h2
    dsimp only at h1 h2
    exact aVz_ok _ _ _ h1 (by omega)
def aCt2 (G : aG) (t : tM) (c : Int) : List aG := aSp G t [((aIv 6 G t).1, c - 1), (c, (aIv 6 G t).2)]
def aCt3 (G : aG) (t : tM) (c : Int) : List aG := aSp G t [((aIv 6 G t).1, c - 1), (c, c), (c + 1, (aIv 6 G t).2)]
theorem aCt2_ok {ι : aIn} {G : aG} (t : tM) (c : Int) (hG : aOk ι G) : aFo2 ι (aCt2 G t c) := by
  intro _
  refine aSp_ok (fun v h1 h2 => ?_) hG
  by_cases h : v < c
  · exact ⟨_, List.mem_cons_self, h1, by dsimp only; omega⟩
  · exact ⟨_, List.mem_cons_of_mem _ List.mem_cons_self, by dsimp only; omega, h2⟩
theorem aCt3_ok {ι : aIn} {G : aG} (t : tM) (c : Int) (hG : aOk ι G) : aFo2 ι (aCt3 G t c) := by
  intro _
  refine aSp_ok (fun v h1 h2 => ?_) hG
  by_cases h : v < c
  · exact ⟨_, List.mem_cons_self, h1, by dsimp only; omega⟩
  · by_cases h3 : v = c
    · exact ⟨_, List.mem_cons_of_mem _ List.mem_cons_self, by dsimp only; omega, by dsimp only; omega⟩
    · exact ⟨_, List.mem_cons_of_mem _ (List.mem_cons_of_mem _ List.mem_cons_self), by dsimp only; omega, h2⟩
def aBr (c : Jvm.ClassFile.Cond) (G : aG) (t : tM) (v : Int) : List aG := match c with
  | .eq => aCt3 G t v
  | .ne => aCt3 G t v
  | .lt => aCt2 G t v
  | .ge => aCt2 G t v
  | .gt => aCt2 G t (v + 1)
  | .le => aCt2 G t (v + 1)
theorem aBr_ok {ι : aIn} {G : aG} (c : Jvm.ClassFile.Cond) (t : tM) (v : Int) (hG : aOk ι G) : aFo2 ι (aBr c G t v) := by
  unfold aBr
  cases c <;> first | exact aCt2_ok t _ hG | exact aCt3_ok t _ hG
def aFl (c : Jvm.ClassFile.Cond) : Jvm.ClassFile.Cond := match c with
  | .lt => .gt
  | .gt => .lt
  | .le => .ge
  | .ge => .le
  | c => c
def aFk2 (c : Jvm.ClassFile.Cond) (G : aG) (x y : tM) : List aG := match aNm G y with
  | .int v => aBr c G x v.toInt
  | _ => (match aNm G x with
    | .int v => aBr (aFl c) G y v.toInt
    | _ => (match aVals G y with
      | [] => aVals G x
      | l => l))
theorem aFk2_ok {ι : aIn} {G : aG} (c : Jvm.ClassFile.Cond) (x y : tM) (hG : aOk ι G) : aFo2 ι (aFk2 c G x y) := by
  unfold aFk2
  split
  · exact aBr_ok c x _ hG
  · split
    · exact aBr_ok _ y _ hG
    · split
      · exact aVals_ok x hG
      · exact aVals_ok y hG
def aSw (G : aG) (t : tM) (lo hi : Int) : List aG := bif decide (hi - lo ≤ 300) then aSp G t (((aIv 6 G t).1, lo - 1) :: (hi + 1, (aIv 6 G t).2) :: aVz lo (hi - lo + 1).toNat) else []
theorem aSw_ok {ι : aIn} {G : aG} (t : tM) (lo hi : Int) (hG : aOk ι G) : aFo2 ι (aSw G t lo hi) := by
  unfold aSw
  cases hd : decide (hi - lo ≤ 300) with
  | false => intro h; exact absurd rfl h
  | true =>
    intro _
    refine aSp_ok (fun v h1 h2 => ?_) hG
    by_cases h : v < lo
    · exact ⟨_, List.mem_cons_self, h1, by dsimp only; omega⟩
    · by_cases h3 : hi < v
      · exact ⟨_, List.mem_cons_of_mem _ List.mem_cons_self, by dsimp only; omega, h2⟩
      · obtain ⟨z, hz, h4⟩ := aVz_ok (hi - lo + 1).toNat lo v (by omega) (by omega)
        exact ⟨z, List.mem_cons_of_mem _ (List.mem_cons_of_mem _ hz), h4⟩
def aTp (st : List tM) (f : tM → List aG) : List aG := match st with
  | x :: _ => f x
  | _ => []
def aTp2 (st : List tM) (f : tM → tM → List aG) : List aG := match st with
  | y :: x :: _ => f x y
  | _ => []
theorem aTp_ok {ι : aIn} {st : List tM} {f : tM → List aG} (hf : ∀ x, aFo2 ι (f x)) : aFo2 ι (aTp st f) := by
  unfold aTp
  split
  · exact hf _
  · exact fun h => absurd rfl h
theorem aTp2_ok {ι : aIn} {st : List tM} {f : tM → tM → List aG} (hf : ∀ x y, aFo2 ι (f x y)) : aFo2 ι (aTp2 st f) := by
  unfold aTp2
  split
  · exact hf _ _
  · exact fun h => absurd rfl h
def aFrk (ins : Instr) (G : aG) (st : List tM) : List aG := match ins with
  | .if_icmp c _ => aTp2 st (fun x y => aFk2 c G x y)
  | .ifCond c _ => aTp st (fun x => aFk2 c G x (.int 0))
  | .tableswitch _ lo hi _ => aTp st (fun x => aSw G x lo hi)
  | .lookupswitch _ _ => aTp st (fun x => aVals G x)
  | .invokestatic k => bif Nat.beq k 1002 then aTp st (fun x => aFk2 .lt G x (.int 0)) else aTp2 st (fun x y => aFk2 .lt G x y)
  | .newarray _ => aTp st (fun x => aVals G x)
  | .anewarray _ => aTp st (fun x => aVals G x)
  | .iaload => aTp st (fun x => aVals G x)
  | .baload => aTp st (fun x => aVals G x)
  | .laload => aTp st (fun x => aVals G x)
  | .aaload => aTp st (fun x => aVals G x)
  | .iastore => aTp2 st (fun x _ => aVals G x)
  | .bastore => aTp2 st (fun x _ => aVals G x)
  | .lastore => aTp2 st (fun x _ => aVals G x)
  | .aastore => aTp2 st (fun x _ => aVals G x)
  | _ => []
theorem aFrk_ok {ι : aIn} {G : aG} (ins : Instr) (st : List tM) (hG : aOk ι G) : aFo2 ι (aFrk ins G st) := by
  unfold aFrk
  split
  · exact aTp2_ok fun x y => aFk2_ok _ x y hG
  · exact aTp_ok fun x => aFk2_ok _ x _ hG
  · exact aTp_ok fun x => aSw_ok x _ _ hG
  · exact aTp_ok fun x => aVals_ok x hG
  · rename_i k
    cases Nat.beq k 1002 with
    | true => exact aTp_ok fun x => aFk2_ok _ x _ hG
    | false => exact aTp2_ok fun x y => aFk2_ok _ x y hG
  · exact aTp_ok fun x => aVals_ok x hG
  · exact aTp_ok fun x => aVals_ok x hG
  · exact aTp_ok fun x => aVals_ok x hG
  · exact aTp_ok fun x => aVals_ok x hG
  · exact aTp_ok fun x => aVals_ok x hG
  · exact aTp_ok fun x => aVals_ok x hG
  · exact aTp2_ok fun x _ => aVals_ok x hG
  · exact aTp2_ok fun x _ => aVals_ok x hG
  · exact aTp2_ok fun x _ => aVals_ok x hG
  · exact aTp2_ok fun x _ => aVals_ok x hG
  · exact fun h => absurd rfl h
/-! comparisons, jumps -/
def aCr (c : Jvm.ClassFile.Cond) (o : Nat) : Bool := match c with
  | .eq => Nat.beq o 1
  | .ne => !(Nat.beq o 1)
  | .lt => Nat.beq o 0
  | .ge => !(Nat.beq o 0)
  | .gt => Nat.beq o 2
  | .le => !(Nat.beq o 2)
theorem aCr_lt (c : Jvm.ClassFile.Cond) {x y : Int32} (h : x.toInt < y.toInt) : sC2 c x y = aCr c 0 := by
  have e1 : ¬ x = y := fun e => by rw [e] at h; omega
  have e2 : x < y := Int32.lt_iff_toInt_lt.mpr h
  have e3 : ¬ y ≤ x := fun e => by have := Int32.le_iff_toInt_le.mp e; omega
  have e4 : ¬ y < x := fun e => by have := Int32.lt_iff_toInt_lt.mp e; omega
  have e5 : x ≤ y := Int32.le_iff_toInt_le.mpr (by omega)
  cases c <;> simp [sC2, aCr, aBq, e1, e2, e3, e4, e5]
theorem aCr_gt (c : Jvm.ClassFile.Cond) {x y : Int32} (h : y.toInt < x.toInt) : sC2 c x y = aCr c 2 := by
  have e1 : ¬ x = y := fun e => by rw [e] at h; omega
  have e2 : y < x := Int32.lt_iff_toInt_lt.mpr h
  have e3 : ¬ x ≤ y := fun e => by have := Int32.le_iff_toInt_le.mp e; omega
  have e4 : ¬ x < y := fun e => by have := Int32.lt_iff_toInt_lt.mp e; omega
  have e5 : y ≤ x := Int32.le_iff_toInt_le.mpr (by omega)
  cases c <;> simp [sC2, aCr, aBq, e1, e2, e3, e4, e5]
theorem aCr_eq (c : Jvm.ClassFile.Cond) {x y : Int32} (h : x.toInt = y.toInt) : sC2 c x y = aCr c 1 := by
  have e1 : x = y := Int32.toInt_inj.mp h
  have e2 : ¬ x < y := fun e => by have := Int32.lt_iff_toInt_lt.mp e; omega
  have e3 : y ≤ x := Int32.le_iff_toInt_le.mpr (by omega)
  subst e1
  cases c <;> simp [sC2, aCr, aBq, e2, e3]
def aC2 (c : Jvm.ClassFile.Cond) (G : aG) (x y : tM) : Option Bool := match aIv 6 G x with
  | (xl, xh) => (match aIv 6 G y with
    | (yl, yh) => bif decide (xh < yl) then some (aCr c 0) else (bif decide (yh < xl) then some (aCr c 2) else (bif (decide (xh ≤ yl) && decide (yh ≤ xl)) || tBq 24 x y then some (aCr c 1) else (bif decide (yh ≤ xl) then (match c with
      | .lt => some false
      | .ge => some true
      | _ => none) else (bif decide (xh ≤ yl) then (match c with
      | .gt => some false
      | .le => some true
      | _ => none) else none)))))
theorem aC2_ok {ι : aIn} {c : Jvm.ClassFile.Cond} {G : aG} {x y : tM} {b : Bool} (h : aC2 c G x y = some b) (hG : aOk ι G) : sC2 c (vI (eT ι x)) (vI (eT ι y)) = b := by
  have hx := aIv_ok hG 6 x
  have hy := aIv_ok hG 6 y
  unfold aC2 at h
  split at h
  rename_i xl xh ex
  split at h
  rename_i yl yh ey
  rw [ex] at hx
  rw [ey] at hy
  unfold aW aZ at hx hy
  dsimp only at hx hy
  cases h1 : decide (xh < yl) with
  | true =>
    rw [h1] at h
    cases h
    have h1 := of_decide_eq_true h1
    exact aCr_lt c (by omega)
  | false =>
    rw [h1] at h
    dsimp only [cond] at h
    cases h2 : decide (yh < xl) with
    | true =>
      rw [h2] at h
      cases h
      have h2 := of_decide_eq_true h2
      exact aCr_gt c (by omega)
    | false =>
      rw [h2] at h
      dsimp only [cond] at h
      cases h3 : ((decide (xh ≤ yl) && decide (yh ≤ xl)) || tBq 24 x y) with
      | true =>
        rw [h3] at h
        cases h
        refine aCr_eq c ?_
        rw [Bool.or_eq_true] at h3
        rcases h3 with h3 | h3
        · have h4 := of_decide_eq_true (aBa h3).1
          have h5 := of_decide_eq_true (aBa h3).2
          omega
        · rw [tBq_eq _ _ _ h3]
      | false =>
        rw [h3] at h
        dsimp only [cond] at h
        cases h4 : decide (yh ≤ xl) with
        | true =>
          rw [h4] at h
          dsimp only [cond] at h
          have h4 := of_decide_eq_true h4
          split at h
          · cases h
            exact decide_eq_false (fun e => by have := Int32.lt_iff_toInt_lt.mp e; omega)
          · cases h
            exact decide_eq_true (Int32.le_iff_toInt_le.mpr (by omega))
          · cases h
        | false =>
          rw [h4] at h
          dsimp only [cond] at h
          cases h5 : decide (xh ≤ yl) with
          | true =>
            rw [h5] at h
            dsimp only [cond] at h
            have h5 := of_decide_eq_true h5
            split at h
            · cases h
              exact decide_eq_false (fun e => by have := Int32.lt_iff_toInt_lt.mp e; omega)
            · cases h
              exact decide_eq_true (Int32.le_iff_toInt_le.mpr (by omega))
            · cases h
          | false =>
            rw [h5] at h
            cases h
def aC3 (c : Jvm.ClassFile.Cond) (G : aG) (x y : tM) : Option Bool := match aC2 c G x y with
  | some b => some b
  | none => aC2 c G (aDp 12 G x) (aDp 12 G y)
theorem aC3_ok {ι : aIn} {c : Jvm.ClassFile.Cond} {G : aG} {x y : tM} {b : Bool} (h : aC3 c G x y = some b) (hG : aOk ι G) : sC2 c (vI (eT ι x)) (vI (eT ι y)) = b := by
  unfold aC3 at h
  split at h
  · rename_i hb
    cases h
    exact aC2_ok hb hG
  · have h1 := aC2_ok h hG
    rw [aDp_ok hG, aDp_ok hG] at h1
    exact h1
def aIf (pc : Nat) (off : Int) (b : Bool) (r : List tM) : Option (Nat × List tM) := match sTgt pc off with
  | some t => some (bif b then t else pc + 3, r)
  | none => none
theorem aIf_ok (ι : aIn) {pc p1 : Nat} {off : Int} {b : Bool} {r st1 : List tM} (h : aIf pc off b r = some (p1, st1)) : sIf pc off b (eS ι r) = some (p1, eS ι st1) := by
  unfold aIf at h
  unfold sIf
  split at h
  · rename_i t ht
    cases h
    rw [ht]
  · cases h
def aJmp (ins : Instr) (pc : Nat) (G : aG) (st : List tM) : Option (Nat × List tM) := match ins with
  | .goto off => (match sTgt pc off with
    | some t => some (t, st)
    | none => none)
  | .if_icmp c off => (match st with
    | y :: x :: r => bif Nat.beq (kT y) 0 && Nat.beq (kT x) 0 then (match aC3 c G x y with
      | some b => aIf pc off b r
      | none => none) else none
    | _ => none)
  | .ifCond c off => (match st with
    | x :: r => bif Nat.beq (kT x) 0 then (match aC3 c G x (.int 0) with
      | some b => aIf pc off b r
      | none => none) else none
    | _ => none)
  | .ifnull off => (match st with
    | t :: r => (match t with
      | .null => aIf pc off true r
      | .index _ => aIf pc off false r
      | _ => none)
    | _ => none)
  | .ifnonnull off => (match st with
    | t :: r => (match t with
      | .null => aIf pc off false r
      | .index _ => aIf pc off true r
      | _ => none)
    | _ => none)
  | .tableswitch dflt lo hi offs => (match st with
    | t :: r => (match aNm G t with
      | .int x => if x.toInt < lo ∨ hi < x.toInt then (match sTgt pc dflt with
        | some t => some (t, r)
        | none => none) else (match offs[(x.toInt - lo).toNat]? with
        | some off => (match sTgt pc off with
          | some t => some (t, r)
          | none => none)
        | none => none)
      | _ => bif Nat.beq (kT t) 0 && (decide ((aIv 6 G t).2 < lo) || decide (hi < (aIv 6 G t).1)) then (match sTgt pc dflt with
        | some t => some (t, r)
        | none => none) else none)
    | _ => none)
  | .lookupswitch dflt ps => (match st with
    | t :: r => (match aNm G t with
      | .int x => (match sTgt pc (Op.lookupswitch.offset ps.toList dflt x.toInt) with
        | some t => some (t, r)
        | none => none)
      | _ => none)
    | _ => none)
  | _ => none
theorem aJmp_ok {ι : aIn} {ins : Instr} {pc p1 : Nat} {G : aG} {st st1 : List tM} (h : aJmp ins pc G st = some (p1, st1)) (hG : aOk ι G) : sJmp ins pc (eS ι st) = some (p1, eS ι st1) := by
  unfold aJmp at h
  split at h
  · split at h
    · rename_i t ht
      cases h
      show (sTgt pc _).map _ = _
      rw [ht]; rfl
    · cases h
  · split at h
    · rename_i c off _ y x r
      obtain ⟨b, h⟩ := aBf h
      obtain ⟨b1, b2⟩ := aBa b
      split at h
      · rename_i b3 h3
        have h4 := aC3_ok h3 hG
        show sJmp (.if_icmp c off) pc (eT ι y :: eT ι x :: eS ι r) = _
        rw [kT_0 (aBt b1), kT_0 (aBt b2)]
        show sIf pc off (sC2 c (vI (eT ι x)) (vI (eT ι y))) (eS ι r) = _
        rw [h4]
        exact aIf_ok ι h
      · cases h
    · cases h
  · split at h
    · rename_i c off _ x r
      obtain ⟨b1, h⟩ := aBf h
      split at h
      · rename_i b3 h3
        have h4 := aC3_ok h3 hG
        show sJmp (.ifCond c off) pc (eT ι x :: eS ι r) = _
        rw [kT_0 (aBt b1)]
        show sIf pc off (sC2 c (vI (eT ι x)) 0) (eS ι r) = _
        rw [show (0 : Int32) = vI (eT ι (.int 0)) from rfl, h4]
        exact aIf_ok ι h
      · cases h
    · cases h
  · split at h
    · split at h
      · exact aIf_ok ι h
      · exact aIf_ok ι h
      · cases h
    · cases h
  · split at h
    · split at h
      · exact aIf_ok ι h
      · exact aIf_ok ι h
      · cases h
    · cases h
  · split at h
    · rename_i dflt lo hi offs _ t r
      split at h
      · rename_i x hx
        have e : eT ι t = .int x := by rw [← aNm_ok hG, hx]; rfl
        show sJmp (.tableswitch dflt lo hi offs) pc (eT ι t :: eS ι r) = _
        rw [e]
        show (if x.toInt < lo ∨ hi < x.toInt then (sTgt pc dflt).map (fun t => (t, eS ι r)) else (match offs[(x.toInt - lo).toNat]? with
          | some off => (sTgt pc off).map (fun t => (t, eS ι r))
          | none => none)) = _
        split at h
        · rename_i hc
          rw [if_pos hc]
          split at h
          · rename_i t ht
            cases h
            rw [ht]; rfl
          · cases h
        · rename_i hc
          rw [if_neg hc]
          split at h
          · rename_i off ho
            (try rw [ho])
            (try dsimp only)
            split at h
            · rename_i t ht
              cases h
              rw [ht]; rfl
            · cases h
          · cases h
      · obtain ⟨b, h⟩ := aBf h
        obtain ⟨b1, b2⟩ := aBa b
        have h0 := aIv_ok hG 6 t
        unfold aW aZ at h0
        have hc : (vI (eT ι t)).toInt < lo ∨ hi < (vI (eT ι t)).toInt := by
          rw [Bool.or_eq_true] at b2
          rcases b2 with b2 | b2
          · have b3 := of_decide_eq_true b2
            omega
          · have b3 := of_decide_eq_true b2
            omega
        show sJmp (.tableswitch dflt lo hi offs) pc (eT ι t :: eS ι r) = _
        rw [kT_0 (aBt b1)]
        show (if (vI (eT ι t)).toInt < lo ∨ hi < (vI (eT ι t)).toInt then (sTgt pc dflt).map (fun t => (t, eS ι r)) else _) = _
        rw [if_pos hc]
        split at h
        · rename_i t ht
          cases h
          rw [ht]; rfl
        · cases h
    · cases h
  · split at h
    · rename_i dflt ps _ t r
      split at h
      · rename_i x hx
        have e : eT ι t = .int x := by rw [← aNm_ok hG, hx]; rfl
        show sJmp (.lookupswitch dflt ps) pc (eT ι t :: eS ι r) = _
        rw [e]
        show (sTgt pc (Op.lookupswitch.offset ps.toList dflt x.toInt)).map (fun t => (t, eS ι r)) = _
        split at h
        · rename_i t ht
          cases h
          rw [ht]; rfl
        · cases h
      · cases h
    · cases h
  · cases h
/-! ends, calls -/
def aRet (rt : Option FieldType) (ins : Instr) (G : aG) (st : List tM) : Option (Option tM) := match ins with
  | .ireturn => (match st with
    | [t] => (match rt with
      | some .int => bif Nat.beq (kT t) 0 then some (some t) else none
      | some .boolean => bif aBo G t then some (some t) else none
      | _ => none)
    | _ => none)
  | .lreturn => (match st with
    | [t] => (match rt with
      | some .long => bif Nat.beq (kT t) 1 then some (some t) else none
      | _ => none)
    | _ => none)
  | .areturn => (match st with
    | [t] => (match rt with
      | some (.object _) => bif Nat.beq (kT t) 2 then some (some t) else none
      | _ => none)
    | _ => none)
  | .return_ => (match st with
    | [] => (match rt with
      | none => some none
      | _ => none)
    | _ => none)
  | _ => none
theorem aRet_ok {ι : aIn} {rt : Option FieldType} {ins : Instr} {G : aG} {st : List tM} {v : Option tM} (h : aRet rt ins G st = some v) (hG : aOk ι G) : sRet rt ins (eS ι st) = some (v.map (eT ι)) := by
  unfold aRet at h
  split at h
  · split at h
    · rename_i t
      split at h
      · obtain ⟨b, h⟩ := aBf h
        cases h
        show sRet (some .int) .ireturn [eT ι t] = some (some (eT ι t))
        rw [kT_0 (aBt b)]
        exact if_pos rfl
      · obtain ⟨b, h⟩ := aBf h
        cases h
        obtain ⟨x, hx, h0⟩ := aBo_ok b hG
        show sRet (some .boolean) .ireturn [eT ι t] = some (some (eT ι t))
        rw [hx]
        rcases h0 with rfl | rfl
        · exact if_pos (c := narrow .boolean (.int 0) = .int 0) (e := none) rfl
        · exact if_pos (c := narrow .boolean (.int 1) = .int 1) (e := none) rfl
      · cases h
    · cases h
  · split at h
    · rename_i t
      split at h
      · obtain ⟨b, h⟩ := aBf h
        cases h
        show sRet (some .long) .lreturn [eT ι t] = some (some (eT ι t))
        rw [kT_1 (aBt b)]
        rfl
      · cases h
    · cases h
  · split at h
    · rename_i t
      split at h
      · obtain ⟨b, h⟩ := aBf h
        cases h
        rcases kT_2 (ι := ι) (aBt b) with ⟨k, rfl⟩ | rfl <;> rfl
      · cases h
    · cases h
  · split at h
    · split at h
      · cases h; rfl
      · cases h
    · cases h
  · cases h
def aCt : List tM → Nat
  | [] => 0
  | t :: r => (bif Nat.beq (kT t) 1 then 2 else 1) + aCt r
theorem aCt_ok (ι : aIn) : ∀ st : List tM, ((eS ι st).map (fun v => v.category)).sum = aCt st := by
  intro st
  induction st with
  | nil => rfl
  | cons t r ih =>
    show (eT ι t).category + ((eS ι r).map (fun v => v.category)).sum = (bif Nat.beq (kT t) 1 then 2 else 1) + aCt r
    rw [ih, eT_cat, aBq]
    by_cases h : kT t = 1
    · rw [if_pos h, decide_eq_true h]; rfl
    · rw [if_neg h, decide_eq_false h]; rfl
theorem a_mx1 {a b : Int32} (h : a.toInt ≤ b.toInt) : (if a < b then b else a) = b := by
  by_cases q : a < b
  · rw [if_pos q]
  · rw [if_neg q]
    have q2 : ¬ a.toInt < b.toInt := fun e => q (Int32.lt_iff_toInt_lt.mpr e)
    exact Int32.toInt_inj.mp (by omega)
theorem a_mx2 {a b : Int32} (h : b.toInt ≤ a.toInt) : (if a < b then b else a) = a :=
  if_neg (fun e => by have := Int32.lt_iff_toInt_lt.mp e; omega)
theorem a_mn1 {a b : Int32} (h : a.toInt ≤ b.toInt) : (if b < a then b else a) = a :=
  if_neg (fun e => by have := Int32.lt_iff_toInt_lt.mp e; omega)
theorem a_mn2 {a b : Int32} (h : b.toInt ≤ a.toInt) : (if b < a then b else a) = b := by
  by_cases q : b < a
  · rw [if_pos q]
  · rw [if_neg q]
    have q2 : ¬ b.toInt < a.toInt := fun e => q (Int32.lt_iff_toInt_lt.mpr e)
    exact Int32.toInt_inj.mp (by omega)
def aMm (k : Nat) (p q : Int × Int) (x y : tM) : Option tM :=
  bif Nat.beq k 1000 then (bif decide (p.2 ≤ q.1) then some y else (bif decide (q.2 ≤ p.1) then some x else none))
  else (bif Nat.beq k 1001 then (bif decide (p.2 ≤ q.1) then some x else (bif decide (q.2 ≤ p.1) then some y else none)) else none)
theorem aBi {α : Type} {c : Bool} {a b : Option α} {x : α} (h : (bif c then a else b) = some x) : (c = true ∧ a = some x) ∨ (c = false ∧ b = some x) := by
  cases c with
  | true => exact Or.inl ⟨rfl, h⟩
  | false => exact Or.inr ⟨rfl, h⟩
theorem aMm_ok {ι : aIn} {k : Nat} {p q : Int × Int} {x y t : tM} (h : aMm k p q x y = some t) (kx : kT x = 0) (ky : kT y = 0) (hx : aW (aZ ι x) p) (hy : aW (aZ ι y) q) (r : List Value) : sSpec (.invokestatic k) (eT ι y :: eT ι x :: r) = some (eT ι t :: r) := by
  have ex := kT_0 (ι := ι) kx
  have ey := kT_0 (ι := ι) ky
  unfold aW aZ at hx hy
  generalize vI (eT ι x) = a at *
  generalize vI (eT ι y) = b at *
  unfold aMm at h
  rcases aBi h with ⟨k0, g⟩ | ⟨-, g⟩
  · clear h
    cases aBt k0
    show s2i (fun x y => some (.int (if x < y then y else x))) (eT ι y :: eT ι x :: r) = _
    rw [ex, ey]
    show some (Value.int (if a < b then b else a) :: r) = _
    rcases aBi g with ⟨h1, g1⟩ | ⟨-, g1⟩
    · cases g1
      have h1 := of_decide_eq_true h1
      rw [a_mx1 (by omega), ey]
    · obtain ⟨h1, g2⟩ := aBf g1
      cases g2
      have h1 := of_decide_eq_true h1
      rw [a_mx2 (by omega), ex]
  · obtain ⟨k1, g3⟩ := aBf g
    clear h g
    have g := g3
    clear g3
    cases aBt k1
    show s2i (fun x y => some (.int (if y < x then y else x))) (eT ι y :: eT ι x :: r) = _
    rw [ex, ey]
    show some (Value.int (if b < a then b else a) :: r) = _
    rcases aBi g with ⟨h1, g1⟩ | ⟨-, g1⟩
    · cases g1
      have h1 := of_decide_eq_true h1
      rw [a_mn1 (by omega), ex]
    · obtain ⟨h1, g2⟩ := aBf g1
      cases g2
      have h1 := of_decide_eq_true h1
      rw [a_mn2 (by omega), ey]
def aAb (p : Int × Int) (G : aG) (x : tM) : Option tM := bif decide (0 ≤ p.1) then some x else (bif decide (p.2 < 0) then some (aFo (.sub (.int 0) (aNm G x))) else none)
theorem aAb_ok {ι : aIn} {p : Int × Int} {G : aG} {x t : tM} (h : aAb p G x = some t) (hG : aOk ι G) (kx : kT x = 0) (hx : aW (aZ ι x) p) (r : List Value) : sSpec (.invokestatic 1002) (eT ι x :: r) = some (eT ι t :: r) := by
  have ex := kT_0 (ι := ι) kx
  have e0 : (0 : Int32).toInt = 0 := by decide
  unfold aW aZ at hx
  show (s1i (fun x => .int (if 0 ≤ x then x else 0 - x)) (eT ι x :: r)) = _
  rw [ex]
  show some (Value.int (if 0 ≤ vI (eT ι x) then vI (eT ι x) else 0 - vI (eT ι x)) :: r) = _
  unfold aAb at h
  rcases aBi h with ⟨h1, g⟩ | ⟨-, g⟩
  · cases g
    have h1 := of_decide_eq_true h1
    rw [if_pos (Int32.le_iff_toInt_le.mpr (by rw [e0]; omega)), ← ex]
  · obtain ⟨h1, g1⟩ := aBf g
    cases g1
    have h1 := of_decide_eq_true h1
    rw [if_neg (fun e => by have := Int32.le_iff_toInt_le.mp e; rw [e0] at this; omega), aFo_ok]
    show _ = some (Value.int (0 - vI (eT ι (aNm G x))) :: r)
    rw [aNm_ok hG]
def aSpec (ins : Instr) (G : aG) (st : List tM) : Option (List tM) := match ins with
  | .invokestatic k => bif Nat.beq k 1002 then (match st with
      | x :: r => bif Nat.beq (kT x) 0 then (match aAb (aIv 6 G x) G x with
        | some t => some (t :: r)
        | none => none) else none
      | _ => none)
    else (match st with
      | y :: x :: r => bif Nat.beq (kT y) 0 && Nat.beq (kT x) 0 then (match aMm k (aIv 6 G x) (aIv 6 G y) x y with
        | some t => some (t :: r)
        | none => none) else none
      | _ => none)
  | .invokespecial k => bif Nat.beq k 2000 then (match st with
    | t :: r => (match t with
      | .index _ => some r
      | _ => none)
    | _ => none) else none
  | _ => none
theorem aSpec_ok {ι : aIn} {ins : Instr} {G : aG} {st st1 : List tM} (h : aSpec ins G st = some st1) (hG : aOk ι G) : sSpec ins (eS ι st) = some (eS ι st1) := by
  unfold aSpec at h
  split at h
  · rename_i k
    rcases aBi h with ⟨hk, g⟩ | ⟨-, g⟩
    · clear h
      cases aBt hk
      split at g
      · rename_i x r
        obtain ⟨b, g1⟩ := aBf g
        split at g1
        · rename_i t ht
          cases g1
          exact aAb_ok ht hG (aBt b) (aIv_ok hG 6 x) (eS ι r)
        · cases g1
      · cases g
    · clear h
      split at g
      · rename_i y x r
        obtain ⟨b, g1⟩ := aBf g
        obtain ⟨b1, b2⟩ := aBa b
        split at g1
        · rename_i t ht
          cases g1
          exact aMm_ok ht (aBt b2) (aBt b1) (aIv_ok hG 6 x) (aIv_ok hG 6 y) (eS ι r)
        · cases g1
      · cases g
  · obtain ⟨b, g⟩ := aBf h
    clear h
    cases aBt b
    split at g
    · split at g
      · cases g
        rfl
      · cases g
    · cases g
  · cases h
def aPop (n : Nat) (st : List tM) : Option (List tM × List tM) := bif Nat.ble n st.length then some ((st.take n).reverse, st.drop n) else none
theorem aPop_ok (ι : aIn) {n : Nat} {st as r : List tM} (h : aPop n st = some (as, r)) : sPop n (eS ι st) = some (eS ι as, eS ι r) := by
  unfold aPop at h
  obtain ⟨b, h⟩ := aBf h
  cases h
  unfold sPop
  rw [if_pos (by rw [List.length_map]; exact Nat.le_of_ble_eq_true b)]
  unfold eS
  rw [List.map_reverse, List.map_take, List.map_drop]
def aObj (h : aHp) (a : Nat) : Option Nat := match aCe h a with
  | (c, _, _) => bif Nat.blt a h.1 && Nat.blt c 20 then some c else none
theorem aObj_ok (ι : aIn) {h : aHp} {a c : Nat} (g : aObj h a = some c) : ∃ fs, (eH ι h)[a]? = some (.inr (c, fs)) := by
  unfold aObj at g
  split at g
  rename_i c' n l hc
  obtain ⟨b, g⟩ := aBf g
  cases g
  obtain ⟨b1, b2⟩ := aBa b
  exact ⟨_, by rw [eH_at ι (aBl b1), hc, eC_o ι (c := (c, n, l)) (aBl b2)]⟩
def aCal (ins : Instr) (st : List tM) (h : aHp) : Option (Nat × List tM × List tM) := match ins with
  | .invokestatic k => (match aPop (sNA k) st with
    | some (as, r) => some (k, as, r)
    | none => none)
  | .invokespecial k => (match aPop (sNA k) st with
    | some (as, r) => (match r with
      | t :: r => (match t with
        | .index b => (match aObj h b with
          | some _ => some (k, .index b :: as, r)
          | none => none)
        | _ => none)
      | _ => none)
    | none => none)
  | .invokevirtual k => bif Nat.blt k 1000 then (match aPop (sNA k) st with
    | some (as, r) => (match r with
      | t :: r => (match t with
        | .index b => (match aObj h b with
          | some c => bif Nat.beq c (sOwn k) then some (k, .index b :: as, r) else none
          | none => none)
        | _ => none)
      | _ => none)
    | none => none) else (match aPop (sVt k 100) st with
    | some (as, r) => (match r with
      | t :: r => (match t with
        | .index b => (match aObj h b with
          | some c => bif Nat.beq (sGrp c) 2 && Nat.blt c 11 then some (sVt k c, .index b :: as, r) else none
          | none => none)
        | _ => none)
      | _ => none)
    | none => none)
  | _ => none
theorem aCal_ok (ι : aIn) {ins : Instr} {st as rest : List tM} {h : aHp} {k : Nat} (g : aCal ins st h = some (k, as, rest)) : sCal sNA sOwn sVt ins (eS ι st) (eH ι h) = some (k, eS ι as, eS ι rest) := by
  unfold aCal at g
  split at g
  · split at g
    · rename_i as1 r hp
      cases g
      show (sPop _ _).map _ = _
      rw [aPop_ok ι hp]; rfl
    · cases g
  · split at g
    · rename_i as1 r hp
      split at g
      · rename_i t r
        split at g
        · rename_i b
          split at g
          · rename_i c hc
            cases g
            obtain ⟨fs, hf⟩ := aObj_ok ι hc
            show (sPop _ _).bind _ = _
            rw [aPop_ok ι hp, Option.bind_some]
            show (match (eH ι h)[b]? with
              | some (.inr _) => some (_, Value.ref b :: eS ι as1, eS ι rest)
              | _ => none) = _
            rw [hf]
            rfl
          · cases g
        · cases g
      · cases g
    · cases g
  · rename_i k1
    cases hk : Nat.blt k1 1000 with
    | true =>
      rw [hk] at g
      dsimp only [cond] at g
      split at g
      · rename_i as1 r hp
        split at g
        · rename_i t r
          split at g
          · rename_i b
            split at g
            · rename_i c hc
              obtain ⟨b1, g⟩ := aBf g
              cases g
              obtain ⟨fs, hf⟩ := aObj_ok ι hc
              show (if k < 1000 then (sPop (sNA k) _).bind _ else _) = _
              rw [if_pos (aBl hk), aPop_ok ι hp, Option.bind_some]
              show (match (eH ι h)[b]? with
                | some (.inr (ci, _)) => if ci = sOwn k then some (k, Value.ref b :: eS ι as1, eS ι rest) else none
                | _ => none) = _
              rw [hf]
              exact if_pos (aBt b1)
            · cases g
          · cases g
        · cases g
      · cases g
    | false =>
      rw [hk] at g
      dsimp only [cond] at g
      split at g
      · rename_i as1 r hp
        split at g
        · rename_i t r
          split at g
          · rename_i b
            split at g
            · rename_i c hc
              obtain ⟨b1, g⟩ := aBf g
              cases g
              obtain ⟨b2, b3⟩ := aBa b1
              obtain ⟨fs, hf⟩ := aObj_ok ι hc
              show (if k1 < 1000 then _ else (sPop (sVt k1 100) _).bind _) = _
              rw [if_neg (fun e => by rw [show Nat.blt k1 1000 = true from Nat.ble_eq_true_of_le e] at hk; cases hk), aPop_ok ι hp, Option.bind_some]
              show (match (eH ι h)[b]? with
                | some (.inr (ci, _)) => if sGrp ci = 2 ∧ ci < 11 then some (sVt k1 ci, Value.ref b :: eS ι as1, eS ι rest) else none
                | _ => none) = _
              rw [hf]
              exact if_pos ⟨aBt b2, aBl b3⟩
            · cases g
          · cases g
        · cases g
      · cases g
  · cases g
def aIniA : List tM → aLo
  | [] => []
  | t :: r => bif Nat.beq (kT t) 1 then some t :: none :: aIniA r else some t :: aIniA r
def aIni (nL : Nat) (as : List tM) : Option aLo := bif Nat.ble (aIniA as).length nL then some (aIniA as ++ List.replicate (nL - (aIniA as).length) none) else none
theorem aIniA_ok (ι : aIn) : ∀ as : List tM, sIniA (eS ι as) = eL ι (aIniA as) := by
  intro as
  induction as with
  | nil => rfl
  | cons t r ih =>
    show (if (eT ι t).category = 2 then some (eT ι t) :: none :: sIniA (eS ι r) else some (eT ι t) :: sIniA (eS ι r)) = eL ι (bif Nat.beq (kT t) 1 then some t :: none :: aIniA r else some t :: aIniA r)
    rw [ih, eT_cat, aBq]
    by_cases h : kT t = 1
    · rw [if_pos h, if_pos rfl, decide_eq_true h]; rfl
    · rw [if_neg h, if_neg (by decide), decide_eq_false h]; rfl
theorem aIni_ok (ι : aIn) {nL : Nat} {as : List tM} {L : aLo} (h : aIni nL as = some L) : sIni nL (eS ι as) = some (eL ι L) := by
  unfold aIni at h
  obtain ⟨b, h⟩ := aBf h
  cases h
  unfold sIni
  have e1 : (eS ι as).all sNd = true := by
    rw [List.all_map, List.all_eq_true]
    intro t _
    exact eT_nd ι t
  rw [aIniA_ok, List.length_map, if_pos ⟨e1, Nat.le_of_ble_eq_true b⟩]
  unfold eL
  rw [List.map_append, List.map_replicate]; rfl
/-! ===== the run ===== -/
def aFt : List sEt → Nat → Option Instr
  | [], _ => none
  | e :: r, p => bif Nat.beq e.1 p then some e.2.2.1 else aFt r p
theorem aFt_eq (p : Nat) : ∀ l : List sEt, aFt l p = (match l.find? (fun e => e.1 == p) with
  | some e => some e.2.2.1
  | none => none) := by
  intro l
  induction l with
  | nil => rfl
  | cons e r ih =>
    unfold aFt
    rw [aBq, ih, List.find?_cons]
    by_cases h : e.1 = p
    · rw [decide_eq_true h, show (e.1 == p) = true from beq_iff_eq.mpr h]; rfl
    · rw [decide_eq_false h, show (e.1 == p) = false from beq_eq_false_iff_ne.mpr h]; rfl
def aFk (k pc : Nat) : Option Instr := match aNth sMs k with
  | some q => aFt (mT q) pc
  | none => none
theorem aFk_eq (k pc : Nat) : aFk k pc = sFk k pc := by
  unfold aFk sFk sM
  rw [aNth_eq]
  cases sMs[k]? with
  | none => rfl
  | some q => exact aFt_eq pc (mT q)
def aAll : List aG → (aG → Bool) → Bool
  | [], _ => false
  | g :: r, f => f g && r.all f
theorem aAll_ok {ι : aIn} {l : List aG} {f : aG → Bool} (hl : aFo2 ι l) (h : aAll l f = true) : ∃ G', aOk ι G' ∧ f G' = true := by
  cases l with
  | nil => cases h
  | cons g r =>
    obtain ⟨h1, h2⟩ := aBa h
    obtain ⟨G', hm, ho⟩ := hl (fun e => by cases e)
    rcases List.mem_cons.mp hm with rfl | hm
    · exact ⟨_, ho, h1⟩
    · exact ⟨G', ho, List.all_eq_true.mp h2 G' hm⟩
abbrev aKt : Type := Option tM → aHp → aG → Bool
abbrev aRt : Type := Bool → Nat → Nat → Nat → aLo → List tM → aHp → aG → aKt → Bool
def aQ (ι : aIn) (K : aKt) (r : Option Value) (h : sHp) : Prop := ∃ (t : Option tM) (hf : aHp) (Gf : aG), K t hf Gf = true ∧ aOk ι Gf ∧ r = t.map (eT ι) ∧ h = eH ι hf
def aScr (ins : Instr) (G : aG) (st : List tM) (h : aHp) : Option (List tM × aHp) := match ins with
  | .arraylength => (match st with
    | t :: r => (match t with
      | .index a => bif Nat.beq a 1000000 then some (.arg 10 :: r, h) else none
      | _ => none)
    | _ => none)
  | .iaload => (match st with
    | i :: t :: r => (match t with
      | .index a => (match aNt G i with
        | some j => bif Nat.beq a 1000000 && (Nat.blt j 6 && decide ((j : Int) < (aIv 6 G (.arg 10)).1)) then aF j (fun j => some (.arg j :: r, h)) else none
        | none => none)
      | _ => none)
    | _ => none)
  | ins => aHeap ins G st h
def aHp2 (b : Bool) (ins : Instr) (G : aG) (st : List tM) (h : aHp) : Option (List tM × aHp) := match b with
  | false => aHeap ins G st h
  | true => aScr ins G st h
def aStep (c : Bool) (K2 : Nat → aLo → List tM → aHp → aG → Bool) (R : aRt) : aRt := fun b d k pc L st h G K =>
  bif b && K2 pc L st h G then true else (match aFk k pc with
    | none => false
    | some ins => (match sKnd ins with
      | 0 => (match aPure ins G st with
        | some st1 => aF (pc + sLen ins) (fun p => R b d k p L st1 h G K)
        | none => false)
      | 1 => (match aLoc ins G L st with
        | some (L1, st1) => aF (pc + sLen ins) (fun p => R b d k p L1 st1 h G K)
        | none => false)
      | 2 => (match aHp2 (b && c) ins G st h with
        | some (st1, h1) => aF (pc + sLen ins) (fun p => R b d k p L st1 h1 G K)
        | none => aAll (aFrk ins G st) (fun G1 => R b d k pc L st h G1 K))
      | 3 => (match aJmp ins pc G st with
        | some (p1, st1) => aF p1 (fun p => R b d k p L st1 h G K)
        | none => aAll (aFrk ins G st) (fun G1 => R b d k pc L st h G1 K))
      | 4 => (match sRk k with
        | some rt => (match aRet rt ins G st with
          | some v => K v h G
          | none => false)
        | none => false)
      | 5 => (match aCal ins st h with
        | some (k1, as, rest) => bif Nat.ble (aCt rest) 8 then (match d with
          | d1 + 1 => (match sNk k1 with
            | some nL => (match aIni nL as with
              | some L1 => R false d1 k1 0 L1 [] h G (fun t hf Gf => aF (pc + 3) (fun p => R b d k p L (t.toList ++ rest) hf Gf K))
              | none => false)
            | none => false)
          | 0 => false) else false
        | none => false)
      | 6 => bif Nat.ble (aCt st) 10 then (match aSpec ins G st with
        | some st1 => aF (pc + 3) (fun p => R b d k p L st1 h G K)
        | none => aAll (aFrk ins G st) (fun G1 => R b d k pc L st h G1 K)) else false
      | _ => false))
def aXb (X : sX) (b : Bool) : sX := match b with
  | true => X
  | false => none
def aQb (b : Bool) (Q0 Q1 : Option Value → sHp → Prop) : Option Value → sHp → Prop := match b with
  | true => Q0
  | false => Q1
def aSnd (ι : aIn) (X : sX) (k0 d0 : Nat) (K0 : aKt) (Q0 : Option Value → sHp → Prop) (R : aRt) : Prop := ∀ (b : Bool) (d k pc : Nat) (L : aLo) (st : List tM) (h : aHp) (G : aG) (K : aKt), R b d k pc L st h G K = true → aOk ι G → (b = true → K = K0 ∧ d = d0 ∧ k = k0) → sGo (aXb X b) k d pc (eL ι L) (eS ι st) (eH ι h) (aQb b Q0 (aQ ι K))
def aHX (ι : aIn) (X : sX) : Prop := ∃ (N : Nat) (xs : Nat → Int32), X = some (N, xs) ∧ N ≤ 3072 ∧ ι.1 10 = Int32.ofNat N ∧ ∀ i, i < 6 → ι.1 i = xs i
def aHXc (ι : aIn) (c : Bool) (X : sX) : Prop := (c = true → aHX ι X) ∧ (c = false → X = none)
theorem aHp2_ok {ι : aIn} {X : sX} {k d pc : Nat} {L : sLo} {Q : Option Value → sHp → Prop} {b c : Bool} {ins : Instr} {G : aG} {st st1 : List tM} {h h1 : aHp} (HXc : aHXc ι c X) (hF : sFk k pc = some ins) (hk : sKnd ins = 2) (e : aHp2 (b && c) ins G st h = some (st1, h1)) (hG : aOk ι G) (g : sGo (aXb X b) k d (pc + sLen ins) L (eS ι st1) (eH ι h1) Q) : sGo (aXb X b) k d pc L (eS ι st) (eH ι h) Q := by
  cases hbc : (b && c) with
  | false =>
    rw [hbc] at e
    refine go_heap hF hk ?_ (aHeap_ok e hG) g
    have e1 : aXb X b = none := by
      cases b with
      | false => rfl
      | true => exact HXc.2 hbc
    rw [e1]
    rfl
  | true =>
    rw [hbc] at e
    obtain ⟨rfl, rfl⟩ := aBa hbc
    obtain ⟨N, xs, rfl, hN, hι, hxs⟩ := HXc.1 rfl
    change aScr ins G st h = some (st1, h1) at e
    unfold aScr at e
    split at e
    · split at e
      · rename_i t r
        split at e
        · rename_i a
          obtain ⟨b1, e⟩ := aBf e
          cases e
          refine go_scr (st1 := .int (Int32.ofNat N) :: eS ι r) hF hk ?_ ?_
          · show (if a = 1000000 then some (Value.int (Int32.ofNat N) :: eS ι r) else none) = _
            exact if_pos (aBt b1)
          · have e1 : eS ι (.arg 10 :: r) = .int (Int32.ofNat N) :: eS ι r := by
              show Value.int (ι.1 10) :: eS ι r = _
              rw [hι]
            rw [← e1]
            exact g
        · cases e
      · cases e
    · split at e
      · rename_i i t r
        split at e
        · rename_i a
          split at e
          · rename_i j hj
            rw [aF_eq] at e
            obtain ⟨b1, e⟩ := aBf e
            cases e
            obtain ⟨b1, b2⟩ := aBa b1
            obtain ⟨b2, b3⟩ := aBa b2
            have b3 := of_decide_eq_true b3
            obtain ⟨x, x1, -, x2, x3⟩ := aNt_ok hj hG
            have h0 := aIv_ok hG 6 (.arg 10)
            unfold aW at h0
            have h9 : aZ ι (.arg 10) = (N : Int) := by
              show (ι.1 10).toInt = _
              rw [hι]
              exact Int32.toInt_ofNat_of_lt (by omega)
            have hj6 := aBl b2
            refine go_scr (st1 := .int (xs j) :: eS ι r) hF hk ?_ ?_
            · show sScr (some (N, xs)) .iaload (eT ι i :: .ref a :: eS ι r) = _
              rw [x1]
              show (if a = 1000000 ∧ ¬ (x < 0 ∨ N ≤ x.toNatClampNeg) then some (Value.int (xs x.toNatClampNeg) :: eS ι r) else none) = _
              rw [if_pos ⟨aBt b1, by rw [x3]; exact fun e => e.elim x2 (fun e => by omega)⟩, x3]
            · have e1 : eS ι (.arg j :: r) = .int (xs j) :: eS ι r := by
                show (if j < 1000 then Value.int (ι.1 j) else _) :: eS ι r = _
                rw [if_pos (by omega), hxs j hj6]
              rw [← e1]
              exact g
          · cases e
        · cases e
      · cases e
    · rename_i n1 n2
      refine go_heap hF hk ?_ (aHeap_ok e hG) g
      show sScr (some (N, xs)) ins (eS ι st) = none
      unfold sScr
      dsimp only
      split
      · exact absurd rfl n1
      · exact absurd rfl n2
      · rfl
theorem aStep_ok {ι : aIn} {X : sX} {c : Bool} {k0 d0 : Nat} {K0 : aKt} {Q0 : Option Value → sHp → Prop} {K2 : Nat → aLo → List tM → aHp → aG → Bool} {R : aRt} (HX : aHXc ι c X) (HK2 : ∀ (pc : Nat) (L : aLo) (st : List tM) (h : aHp) (G : aG), K2 pc L st h G = true → aOk ι G → sGo X k0 d0 pc (eL ι L) (eS ι st) (eH ι h) Q0) (HK0 : ∀ r h, aQ ι K0 r h → Q0 r h) (HR : aSnd ι X k0 d0 K0 Q0 R) : aSnd ι X k0 d0 K0 Q0 (aStep c K2 R) := by
  intro b d k pc L st h G K g hG hb
  unfold aStep at g
  cases hk2 : (b && K2 pc L st h G) with
  | true =>
    obtain ⟨rfl, b2⟩ := aBa hk2
    obtain ⟨rfl, rfl, rfl⟩ := hb rfl
    exact HK2 pc L st h G b2 hG
  | false =>
    rw [hk2] at g
    dsimp only [cond] at g
    split at g
    · cases g
    · rename_i ins hF
      rw [aFk_eq] at hF
      split at g
      · rename_i hk
        split at g
        · rename_i st1 e
          rw [aF_eq] at g
          exact go_pure hF hk (aPure_ok e hG) (HR _ _ _ _ _ _ _ _ _ g hG hb)
        · cases g
      · rename_i hk
        split at g
        · rename_i L1 st1 e
          rw [aF_eq] at g
          exact go_loc hF hk (aLoc_ok e hG) (HR _ _ _ _ _ _ _ _ _ g hG hb)
        · cases g
      · rename_i hk
        split at g
        · rename_i st1 h1 e
          rw [aF_eq] at g
          exact aHp2_ok HX hF hk e hG (HR _ _ _ _ _ _ _ _ _ g hG hb)
        · obtain ⟨G1, ho, g1⟩ := aAll_ok (aFrk_ok ins st hG) g
          exact HR _ _ _ _ _ _ _ _ _ g1 ho hb
      · rename_i hk
        split at g
        · rename_i p1 st1 e
          rw [aF_eq] at g
          exact go_jmp hF hk (aJmp_ok e hG) (HR _ _ _ _ _ _ _ _ _ g hG hb)
        · obtain ⟨G1, ho, g1⟩ := aAll_ok (aFrk_ok ins st hG) g
          exact HR _ _ _ _ _ _ _ _ _ g1 ho hb
      · rename_i hk
        split at g
        · rename_i rt hrt
          split at g
          · rename_i v e
            have hq : aQ ι K (v.map (eT ι)) (eH ι h) := ⟨v, h, G, g, hG, rfl, rfl⟩
            refine go_ret hF hk hrt (aRet_ok e hG) ?_
            cases b with
            | false => exact hq
            | true =>
              obtain ⟨rfl, -, -⟩ := hb rfl
              exact HK0 _ _ hq
          · cases g
        · cases g
      · rename_i hk
        split at g
        · rename_i k1 as rest e
          cases hc : Nat.ble (aCt rest) 8 with
          | false => rw [hc] at g; cases g
          | true =>
            rw [hc] at g
            dsimp only [cond] at g
            split at g
            · rename_i d1
              split at g
              · rename_i nL hn
                split at g
                · rename_i L1 hi
                  refine go_call hF hk (aCal_ok ι e) (by rw [aCt_ok]; exact Nat.le_of_ble_eq_true hc) (sDo_of hn (aIni_ok ι hi) (HR false _ _ _ _ _ _ _ _ g hG (fun e => by cases e))) ?_
                  rintro r h1 ⟨t, hf, Gf, g1, ho, rfl, rfl⟩
                  dsimp only at g1
                  rw [aF_eq] at g1
                  have g2 := HR _ _ _ _ _ _ _ _ _ g1 ho hb
                  have e2 : eS ι (t.toList ++ rest) = (t.map (eT ι)).toList ++ eS ι rest := by
                    cases t <;> rfl
                  rw [e2] at g2
                  exact g2
                · cases g
              · cases g
            · cases g
        · cases g
      · rename_i hk
        cases hc : Nat.ble (aCt st) 10 with
        | false => rw [hc] at g; cases g
        | true =>
          rw [hc] at g
          dsimp only [cond] at g
          split at g
          · rename_i st1 e
            rw [aF_eq] at g
            exact go_spec hF hk (by rw [aCt_ok]; exact Nat.le_of_ble_eq_true hc) (aSpec_ok e hG) (HR _ _ _ _ _ _ _ _ _ g hG hb)
          · obtain ⟨G1, ho, g1⟩ := aAll_ok (aFrk_ok ins st hG) g
            exact HR _ _ _ _ _ _ _ _ _ g1 ho hb
      · cases g
def aRun (c : Bool) (K2 : Nat → aLo → List tM → aHp → aG → Bool) : Nat → aRt
  | 0 => fun _ _ _ _ _ _ _ _ _ => false
  | n + 1 => aStep c K2 (aRun c K2 n)
theorem aRun_ok {ι : aIn} {X : sX} {c : Bool} {k0 d0 : Nat} {K0 : aKt} {Q0 : Option Value → sHp → Prop} {K2 : Nat → aLo → List tM → aHp → aG → Bool} (HX : aHXc ι c X) (HK2 : ∀ (pc : Nat) (L : aLo) (st : List tM) (h : aHp) (G : aG), K2 pc L st h G = true → aOk ι G → sGo X k0 d0 pc (eL ι L) (eS ι st) (eH ι h) Q0) (HK0 : ∀ r h, aQ ι K0 r h → Q0 r h) : ∀ n, aSnd ι X k0 d0 K0 Q0 (aRun c K2 n) := by
  intro n
  induction n with
  | zero => intro b d k pc L st h G K g; cases g
  | succ n ih => exact aStep_ok HX HK2 HK0 ih
