section
/-! ===== forks: more bounds, of which one holds ===== -/
def aNw (G : aG) (a : tM) (c : Int) : Bool := decide (-2147483648 ≤ (aIv 6 G a).1 + c) && decide ((aIv 6 G a).2 + c ≤ 2147483647)
def aDlo (x c : Int) : Int := if 0 < x then x * c else x * c - (c - 1)
def aDhi (y c : Int) : Int := if 0 ≤ y then y * c + (c - 1) else y * c
theorem a_tdv {v x y c : Int} (h : 0 < c) (h1 : x ≤ v.tdiv c) (h2 : v.tdiv c ≤ y) : aDlo x c ≤ v ∧ v ≤ aDhi y c := by
  have e := Int.tdiv_mul_add_tmod v c
  have m1 := Int.tmod_lt_of_pos v h
  have m2 := Int.tmod_lt_of_pos (-v) h
  rw [Int.neg_tmod] at m2
  have p1 : 0 ≤ v → 0 ≤ v.tmod c ∧ 0 ≤ v.tdiv c := fun q => ⟨Int.tmod_nonneg _ q, Int.tdiv_nonneg q (by omega)⟩
  have p2 : v ≤ 0 → v.tmod c ≤ 0 ∧ v.tdiv c ≤ 0 := fun q => by
    have q1 := Int.tmod_nonneg c (a := -v) (by omega)
    have q2 : 0 ≤ (-v).tdiv c := Int.tdiv_nonneg (by omega) (by omega)
    rw [Int.neg_tmod] at q1
    rw [Int.neg_tdiv] at q2
    omega
  have k1 : x * c ≤ v.tdiv c * c := Int.mul_le_mul_of_nonneg_right h1 (by omega)
  have k2 : v.tdiv c * c ≤ y * c := Int.mul_le_mul_of_nonneg_right h2 (by omega)
  unfold aDlo aDhi
  generalize v.tdiv c = q at *
  generalize v.tmod c = r at *
  generalize q * c = z at *
  generalize x * c = z1 at *
  generalize y * c = z2 at *
  refine ⟨?_, ?_⟩
  · split
    · by_cases hv : 0 ≤ v
      · have := p1 hv; omega
      · have := p2 (by omega); omega
    · by_cases hv : 0 ≤ v
      · have := p1 hv; omega
      · have := p2 (by omega); omega
  · split
    · by_cases hv : 0 ≤ v
      · have := p1 hv; omega
      · have := p2 (by omega); omega
    · by_cases hv : 0 ≤ v
      · have := p1 hv; omega
      · have := p2 (by omega); omega
def aEn : Nat → aG → tM → Int → Int → aG
  | 0, G, _, _, _ => G
  | n + 1, G, t, lo, hi => aFc (max (aIv 6 G t).1 lo) (fun x => aFc (min (aIv 6 G t).2 hi) (fun y => match t with
    | .add a (.int c) => bif aNw G a c.toInt then aEn n ((t, x, y) :: G) a (x - c.toInt) (y - c.toInt) else (t, x, y) :: G
    | .sub a (.int c) => bif aNw G a (-c.toInt) then aEn n ((t, x, y) :: G) a (x + c.toInt) (y + c.toInt) else (t, x, y) :: G
    | .div a (.int c) => bif decide (0 < c.toInt) then aEn n ((t, x, y) :: G) a (aDlo x c.toInt) (aDhi y c.toInt) else (t, x, y) :: G
    | _ => (t, x, y) :: G))
theorem aOk_cons {ι : aIn} {G : aG} {t : tM} {x y : Int} (hG : aOk ι G) (h1 : x ≤ aZ ι t) (h2 : aZ ι t ≤ y) : aOk ι ((t, x, y) :: G) := by
  intro e he
  rcases List.mem_cons.mp he with rfl | he
  · exact ⟨h1, h2⟩
  · exact hG e he
theorem aEn_ok {ι : aIn} : ∀ (n : Nat) {G : aG} {t : tM} {lo hi : Int}, aOk ι G → lo ≤ aZ ι t → aZ ι t ≤ hi → aOk ι (aEn n G t lo hi) := by
  intro n
  induction n with
  | zero => intro G t lo hi hG _ _; exact hG
  | succ n ih =>
    intro G t lo hi hG h1 h2
    have h0 := aIv_ok hG 6 t
    unfold aW at h0
    unfold aEn
    rw [aFc_eq, aFc_eq]
    have h3 : max (aIv 6 G t).1 lo ≤ aZ ι t := by omega
    have h4 : aZ ι t ≤ min (aIv 6 G t).2 hi := by omega
    generalize max (aIv 6 G t).1 lo = x at *
    generalize min (aIv 6 G t).2 hi = y at *
    have hG1 := aOk_cons hG h3 h4
    split
    · rename_i a c
      cases hw : aNw G a c.toInt with
      | false => exact hG1
      | true =>
        obtain ⟨w1, w2⟩ := aBa hw
        have w1 := of_decide_eq_true w1
        have w2 := of_decide_eq_true w2
        have ha := aIv_ok hG 6 a
        have e : aZ ι (.add a (.int c)) = aZ ι a + c.toInt := by
          unfold aW at ha
          show (vI (eT ι a) + c).toInt = _
          unfold aZ at ha ⊢
          rw [Int32.toInt_add]
          exact Int.bmod_eq_of_le (by omega) (by omega)
        rw [e] at h3 h4
        exact ih hG1 (by omega) (by omega)
    · rename_i a c
      cases hw : aNw G a (-c.toInt) with
      | false => exact hG1
      | true =>
        obtain ⟨w1, w2⟩ := aBa hw
        have w1 := of_decide_eq_true w1
        have w2 := of_decide_eq_true w2
        have ha := aIv_ok hG 6 a
        have e : aZ ι (.sub a (.int c)) = aZ ι a - c.toInt := by
          unfold aW at ha
          show (vI (eT ι a) - c).toInt = _
          unfold aZ at ha ⊢
          rw [Int32.toInt_sub]
          exact Int.bmod_eq_of_le (by omega) (by omega)
        rw [e] at h3 h4
        exact ih hG1 (by omega) (by omega)
    · rename_i a c
      cases hw : decide (0 < c.toInt) with
      | false => exact hG1
      | true =>
        have hc := of_decide_eq_true hw
        have e : aZ ι (.div a (.int c)) = (aZ ι a).tdiv c.toInt := Int32.toInt_div_of_ne_right _ _ (fun z => by
          have z1 : c = -1 := z
          rw [z1] at hc
          exact absurd hc (by decide))
        rw [e] at h3 h4
        have hd := a_tdv hc h3 h4
        exact ih hG1 hd.1 hd.2
    · exact hG1
def aSp (G : aG) (t : tM) (zs : List (Int × Int)) : List aG := match aIv 6 G t with
  | (p, q) => (zs.filter (fun z => decide (max z.1 p ≤ min z.2 q))).map (fun z => aEn 3 G t z.1 z.2)
def aCv (G : aG) (t : tM) (zs : List (Int × Int)) : Prop := ∀ v : Int, (aIv 6 G t).1 ≤ v → v ≤ (aIv 6 G t).2 → ∃ z ∈ zs, z.1 ≤ v ∧ v ≤ z.2
theorem aSp_ok {ι : aIn} {G : aG} {t : tM} {zs : List (Int × Int)} (hc : aCv G t zs) (hG : aOk ι G) : ∃ G' ∈ aSp G t zs, aOk ι G' := by
  have h0 := aIv_ok hG 6 t
  unfold aW at h0
  obtain ⟨z, hz, h1, h2⟩ := hc (aZ ι t) h0.1 h0.2
  unfold aSp
  split
  rename_i p q he
  rw [he] at h0
  dsimp only at h0
  refine ⟨aEn 3 G t z.1 z.2, List.mem_map.mpr ⟨z, List.mem_filter.mpr ⟨hz, decide_eq_true (by omega)⟩, rfl⟩, aEn_ok 3 hG h1 h2⟩
def aVz (lo : Int) : Nat → List (Int × Int)
  | 0 => []
  | n + 1 => (lo, lo) :: aVz (lo + 1) n
theorem aVz_ok : ∀ (n : Nat) (lo v : Int), lo ≤ v → v < lo + n → ∃ z ∈ aVz lo n, z.1 ≤ v ∧ v ≤ z.2 := by
  intro n
  induction n with
  | zero => intro lo v h1 h2; omega
  | succ n ih =>
    intro lo v h1 h2
    by_cases h : v = lo
    · exact ⟨(lo, lo), List.mem_cons_self, by dsimp only; omega, by dsimp only; omega⟩
    · obtain ⟨z, hz, h3⟩ := ih (lo + 1) v (by omega) (by omega)
      exact ⟨z, List.mem_cons_of_mem _ hz, h3⟩
def aVals (G : aG) (t : tM) : List aG := match aIv 6 G t with
  | (p, q) => bif decide (q - p ≤ 200) then aSp G t (aVz p (q - p + 1).toNat) else []
/-- some of these holds, or there is none -/
def aFo2 (ι : aIn) (l : List aG) : Prop := l ≠ [] → ∃ G' ∈ l, aOk ι G'
theorem aVals_ok {ι : aIn} {G : aG} (t : tM) (hG : aOk ι G) : aFo2 ι (aVals G t) := by
  unfold aVals
  split
  rename_i p q he
  cases hd : decide (q - p ≤ 200) with
  | false => intro h; exact absurd rfl h
  | true =>
    intro _
    refine aSp_ok (fun v h1 h2 => ?_) hG
    rw [he] at h1 h2
    dsimp only at h1 h2
    exact aVz_ok _ _ _ h1 (by omega)
def aCt2 (G : aG) (t : tM) (c : Int) : List aG := aSp G t [((aIv 6 G t).1, c - 1), (c, (aIv 6 G t).2)]
def aCt3 (G : aG) (t : tM) (c : Int) : List aG := aSp G t [((aIv 6 G t).1, c - 1), (c, c), (c + 1, (aIv 6 G t).2)]
theorem aCt2_ok {ι : aIn} {G : aG} (t : tM) (c : Int) (hG : aOk ι G) : aFo2 ι (aCt2 G t c) := by
  intro _
  refine aSp_ok (fun v h1 h2 => ?_) hG
  by_cases h : v < c
  · exact ⟨_, List.mem_cons_self, h1, by dsimp only; omega⟩
  · exact ⟨_, List.mem_cons_of_mem _ List.mem_cons_self, by dsimp only; omega, h2⟩
theorem aCt3_ok {ι : aIn} {G : aG} (t : tM) (c : Int) (hG : aOk ι G) : aFo2 ι (aCt3 G t c) := by
  intro _
  refine aSp_ok (fun v h1 h2 => ?_) hG
  by_cases h : v < c
  · exact ⟨_, List.mem_cons_self, h1, by dsimp only; omega⟩
  · by_cases h3 : v = c
    · exact ⟨_, List.mem_cons_of_mem _ List.mem_cons_self, by dsimp only; omega, by dsimp only; omega⟩
    · exact ⟨_, List.mem_cons_of_mem _ (List.mem_cons_of_mem _ List.mem_cons_self), by dsimp only; omega, h2⟩
def aBr (c : Jvm.ClassFile.Cond) (G : aG) (t : tM) (v : Int) : List aG := match c with
  | .eq => aCt3 G t v
  | .ne => aCt3 G t v
  | .lt => aCt2 G t v
  | .ge => aCt2 G t v
  | .gt => aCt2 G t (v + 1)
  | .le => aCt2 G t (v + 1)
theorem aBr_ok {ι : aIn} {G : aG} (c : Jvm.ClassFile.Cond) (t : tM) (v : Int) (hG : aOk ι G) : aFo2 ι (aBr c G t v) := by
  unfold aBr
  cases c <;> first | exact aCt2_ok t _ hG | exact aCt3_ok t _ hG
def aFl (c : Jvm.ClassFile.Cond) : Jvm.ClassFile.Cond := match c with
  | .lt => .gt
  | .gt => .lt
  | .le => .ge
  | .ge => .le
  | c => c
def aFk2 (c : Jvm.ClassFile.Cond) (G : aG) (x y : tM) : List aG := match aNm G y with
  | .int v => aBr c G x v.toInt
  | _ => (match aNm G x with
    | .int v => aBr (aFl c) G y v.toInt
    | _ => (match aVals G y with
      | [] => aVals G x
      | l => l))
theorem aFk2_ok {ι : aIn} {G : aG} (c : Jvm.ClassFile.Cond) (x y : tM) (hG : aOk ι G) : aFo2 ι (aFk2 c G x y) := by
  unfold aFk2
  split
  · exact aBr_ok c x _ hG
  · split
    · exact aBr_ok _ y _ hG
    · split
      · exact aVals_ok x hG
      · exact aVals_ok y hG
def aSw (G : aG) (t : tM) (lo hi : Int) : List aG := bif decide (hi - lo ≤ 300) then aSp G t (((aIv 6 G t).1, lo - 1) :: (hi + 1, (aIv 6 G t).2) :: aVz lo (hi - lo + 1).toNat) else []
theorem aSw_ok {ι : aIn} {G : aG} (t : tM) (lo hi : Int) (hG : aOk ι G) : aFo2 ι (aSw G t lo hi) := by
  unfold aSw
  cases hd : decide (hi - lo ≤ 300) with
  | false => intro h; exact absurd rfl h
  | true =>
    intro _
    refine aSp_ok (fun v h1 h2 => ?_) hG
    by_cases h : v < lo
    · exact ⟨_, List.mem_cons_self, h1, by dsimp only; omega⟩
    · by_cases h3 : hi < v
      · exact ⟨_, List.mem_cons_of_mem _ List.mem_cons_self, by dsimp only; omega, h2⟩
      · obtain ⟨z, hz, h4⟩ := aVz_ok (hi - lo + 1).toNat lo v (by omega) (by omega)
        exact ⟨z, List.mem_cons_of_mem _ (List.mem_cons_of_mem _ hz), h4⟩
def aTp (st : List tM) (f : tM → List aG) : List aG := match st with
  | x :: _ => f x
  | _ => []
def aTp2 (st : List tM) (f : tM → tM → List aG) : List aG := match st with
  | y :: x :: _ => f x y
  | _ => []
theorem aTp_ok {ι : aIn} {st : List tM} {f : tM → List aG} (hf : ∀ x, aFo2 ι (f x)) : aFo2 ι (aTp st f) := by
  unfold aTp
  split
  · exact hf _
  · exact fun h => absurd rfl h
theorem aTp2_ok {ι : aIn} {st : List tM} {f : tM → tM → List aG} (hf : ∀ x y, aFo2 ι (f x y)) : aFo2 ι (aTp2 st f) := by
  unfold aTp2
  split
  · exact hf _ _
  · exact fun h => absurd rfl h
def aFrk (ins : Instr) (G : aG) (st : List tM) : List aG := match ins with
  | .if_icmp c _ => aTp2 st (fun x y => aFk2 c G x y)
  | .ifCond c _ => aTp st (fun x => aFk2 c G x (.int 0))
  | .tableswitch _ lo hi _ => aTp st (fun x => aSw G x lo hi)
  | .lookupswitch _ _ => aTp st (fun x => aVals G x)
  | .invokestatic k => bif Nat.beq k 1002 then aTp st (fun x => aFk2 .lt G x (.int 0)) else aTp2 st (fun x y => aFk2 .lt G x y)
  | .newarray _ => aTp st (fun x => aVals G x)
  | .anewarray _ => aTp st (fun x => aVals G x)
  | .iaload => aTp st (fun x => aVals G x)
  | .baload => aTp st (fun x => aVals G x)
  | .laload => aTp st (fun x => aVals G x)
  | .aaload => aTp st (fun x => aVals G x)
  | .iastore => aTp2 st (fun x _ => aVals G x)
  | .bastore => aTp2 st (fun x _ => aVals G x)
  | .lastore => aTp2 st (fun x _ => aVals G x)
  | .aastore => aTp2 st (fun x _ => aVals G x)
  | _ => []
theorem aFrk_ok {ι : aIn} {G : aG} (ins : Instr) (st : List tM) (hG : aOk ι G) : aFo2 ι (aFrk ins G st) := by
  unfold aFrk
  split
  · exact aTp2_ok fun x y => aFk2_ok _ x y hG
  · exact aTp_ok fun x => aFk2_ok _ x _ hG
  · exact aTp_ok fun x => aSw_ok x _ _ hG
  · exact aTp_ok fun x => aVals_ok x hG
  · rename_i k
    cases Nat.beq k 1002 with
    | true => exact aTp_ok fun x => aFk2_ok _ x _ hG
    | false => exact aTp2_ok fun x y => aFk2_ok _ x y hG
  · exact aTp_ok fun x => aVals_ok x hG
  · exact aTp_ok fun x => aVals_ok x hG
  · exact aTp_ok fun x => aVals_ok x hG
  · exact aTp_ok fun x => aVals_ok x hG
  · exact aTp_ok fun x => aVals_ok x hG
  · exact aTp_ok fun x => aVals_ok x hG
  · exact aTp2_ok fun x _ => aVals_ok x hG
  · exact aTp2_ok fun x _ => aVals_ok x hG
  · exact aTp2_ok fun x _ => aVals_ok x hG
  · exact aTp2_ok fun x _ => aVals_ok x hG
  · exact fun h => absurd rfl h
/-! comparisons, jumps -/
def aCr (c : Jvm.ClassFile.Cond) (o : Nat) : Bool := match c with
  | .eq => Nat.beq o 1
  | .ne => !(Nat.beq o 1)
  | .lt => Nat.beq o 0
  | .ge => !(Nat.beq o 0)
  | .gt => Nat.beq o 2
  | .le => !(Nat.beq o 2)
theorem aCr_lt (c : Jvm.ClassFile.Cond) {x y : Int32} (h : x.toInt < y.toInt) : sC2 c x y = aCr c 0 := by
  have e1 : ¬ x = y := fun e => by rw [e] at h; omega
  have e2 : x < y := Int32.lt_iff_toInt_lt.mpr h
  have e3 : ¬ y ≤ x := fun e => by have := Int32.le_iff_toInt_le.mp e; omega
  have e4 : ¬ y < x := fun e => by have := Int32.lt_iff_toInt_lt.mp e; omega
  have e5 : x ≤ y := Int32.le_iff_toInt_le.mpr (by omega)
  cases c <;> simp [sC2, aCr, aBq, e1, e2, e3, e4, e5]
theorem aCr_gt (c : Jvm.ClassFile.Cond) {x y : Int32} (h : y.toInt < x.toInt) : sC2 c x y = aCr c 2 := by
  have e1 : ¬ x = y := fun e => by rw [e] at h; omega
  have e2 : y < x := Int32.lt_iff_toInt_lt.mpr h
  have e3 : ¬ x ≤ y := fun e => by have := Int32.le_iff_toInt_le.mp e; omega
  have e4 : ¬ x < y := fun e => by have := Int32.lt_iff_toInt_lt.mp e; omega
  have e5 : y ≤ x := Int32.le_iff_toInt_le.mpr (by omega)
  cases c <;> simp [sC2, aCr, aBq, e1, e2, e3, e4, e5]
theorem aCr_eq (c : Jvm.ClassFile.Cond) {x y : Int32} (h : x.toInt = y.toInt) : sC2 c x y = aCr c 1 := by
  have e1 : x = y := Int32.toInt_inj.mp h
  have e2 : ¬ x < y := fun e => by have := Int32.lt_iff_toInt_lt.mp e; omega
  have e3 : y ≤ x := Int32.le_iff_toInt_le.mpr (by omega)
  subst e1
  cases c <;> simp [sC2, aCr, aBq, e2, e3]
def aC2 (c : Jvm.ClassFile.Cond) (G : aG) (x y : tM) : Option Bool := match aIv 6 G x with
  | (xl, xh) => (match aIv 6 G y with
    | (yl, yh) => bif decide (xh < yl) then some (aCr c 0) else (bif decide (yh < xl) then some (aCr c 2) else (bif (decide (xh ≤ yl) && decide (yh ≤ xl)) || tBq 24 x y then some (aCr c 1) else (bif decide (yh ≤ xl) then (match c with
      | .lt => some false
      | .ge => some true
      | _ => none) else (bif decide (xh ≤ yl) then (match c with
      | .gt => some false
      | .le => some true
      | _ => none) else none)))))
theorem aC2_ok {ι : aIn} {c : Jvm.ClassFile.Cond} {G : aG} {x y : tM} {b : Bool} (h : aC2 c G x y = some b) (hG : aOk ι G) : sC2 c (vI (eT ι x)) (vI (eT ι y)) = b := by
  have hx := aIv_ok hG 6 x
  have hy := aIv_ok hG 6 y
  unfold aC2 at h
  split at h
  rename_i xl xh ex
  split at h
  rename_i yl yh ey
  rw [ex] at hx
  rw [ey] at hy
  unfold aW aZ at hx hy
  dsimp only at hx hy
  cases h1 : decide (xh < yl) with
  | true =>
    rw [h1] at h
    cases h
    have h1 := of_decide_eq_true h1
    exact aCr_lt c (by omega)
  | false =>
    rw [h1] at h
    dsimp only [cond] at h
    cases h2 : decide (yh < xl) with
    | true =>
      rw [h2] at h
      cases h
      have h2 := of_decide_eq_true h2
      exact aCr_gt c (by omega)
    | false =>
      rw [h2] at h
      dsimp only [cond] at h
      cases h3 : ((decide (xh ≤ yl) && decide (yh ≤ xl)) || tBq 24 x y) with
      | true =>
        rw [h3] at h
        cases h
        refine aCr_eq c ?_
        rw [Bool.or_eq_true] at h3
        rcases h3 with h3 | h3
        · have h4 := of_decide_eq_true (aBa h3).1
          have h5 := of_decide_eq_true (aBa h3).2
          omega
        · rw [tBq_eq _ _ _ h3]
      | false =>
        rw [h3] at h
        dsimp only [cond] at h
        cases h4 : decide (yh ≤ xl) with
        | true =>
          rw [h4] at h
          dsimp only [cond] at h
          have h4 := of_decide_eq_true h4
          split at h
          · cases h
            exact decide_eq_false (fun e => by have := Int32.lt_iff_toInt_lt.mp e; omega)
          · cases h
            exact decide_eq_true (Int32.le_iff_toInt_le.mpr (by omega))
          · cases h
        | false =>
          rw [h4] at h
          dsimp only [cond] at h
          cases h5 : decide (xh ≤ yl) with
          | true =>
            rw [h5] at h
            dsimp only [cond] at h
            have h5 := of_decide_eq_true h5
            split at h
            · cases h
              exact decide_eq_false (fun e => by have := Int32.lt_iff_toInt_lt.mp e; omega)
            · cases h
              exact decide_eq_true (Int32.le_iff_toInt_le.mpr (by omega))
            · cases h
          | false =>
            rw [h5] at h
            cases h
def aC3 (c : Jvm.ClassFile.Cond) (G : aG) (x y : tM) : Option Bool := match aC2 c G x y with
  | some b => some b
  | none => aC2 c G (aDp 12 G x) (aDp 12 G y)
theorem aC3_ok {ι : aIn} {c : Jvm.ClassFile.Cond} {G : aG} {x y : tM} {b : Bool} (h : aC3 c G x y = some b) (hG : aOk ι G) : sC2 c (vI (eT ι x)) (vI (eT ι y)) = b := by
  unfold aC3 at h
  split at h
  · rename_i hb
    cases h
    exact aC2_ok hb hG
  · have h1 := aC2_ok h hG
    rw [aDp_ok hG, aDp_ok hG] at h1
    exact h1
def aIf (pc : Nat) (off : Int) (b : Bool) (r : List tM) : Option (Nat × List tM) := match sTgt pc off with
  | some t => some (bif b then t else pc + 3, r)
  | none => none
theorem aIf_ok (ι : aIn) {pc p1 : Nat} {off : Int} {b : Bool} {r st1 : List tM} (h : aIf pc off b r = some (p1, st1)) : sIf pc off b (eS ι r) = some (p1, eS ι st1) := by
  unfold aIf at h
  unfold sIf
  split at h
  · rename_i t ht
    cases h
    rw [ht]
  · cases h
def aJmp (ins : Instr) (pc : Nat) (G : aG) (st : List tM) : Option (Nat × List tM) := match ins with
  | .goto off => (match sTgt pc off with
    | some t => some (t, st)
    | none => none)
  | .if_icmp c off => (match st with
    | y :: x :: r => bif Nat.beq (kT y) 0 && Nat.beq (kT x) 0 then (match aC3 c G x y with
      | some b => aIf pc off b r
      | none => none) else none
    | _ => none)
  | .ifCond c off => (match st with
    | x :: r => bif Nat.beq (kT x) 0 then (match aC3 c G x (.int 0) with
      | some b => aIf pc off b r
      | none => none) else none
    | _ => none)
  | .ifnull off => (match st with
    | t :: r => (match t with
      | .null => aIf pc off true r
      | .index _ => aIf pc off false r
      | _ => none)
    | _ => none)
  | .ifnonnull off => (match st with
    | t :: r => (match t with
      | .null => aIf pc off false r
      | .index _ => aIf pc off true r
      | _ => none)
    | _ => none)
  | .tableswitch dflt lo hi offs => (match st with
    | t :: r => (match aNm G t with
      | .int x => if x.toInt < lo ∨ hi < x.toInt then (match sTgt pc dflt with
        | some t => some (t, r)
        | none => none) else (match offs[(x.toInt - lo).toNat]? with
        | some off => (match sTgt pc off with
          | some t => some (t, r)
          | none => none)
        | none => none)
      | _ => bif Nat.beq (kT t) 0 && (decide ((aIv 6 G t).2 < lo) || decide (hi < (aIv 6 G t).1)) then (match sTgt pc dflt with
        | some t => some (t, r)
        | none => none) else none)
    | _ => none)
  | .lookupswitch dflt ps => (match st with
    | t :: r => (match aNm G t with
      | .int x => (match sTgt pc (Op.lookupswitch.offset ps.toList dflt x.toInt) with
        | some t => some (t, r)
        | none => none)
      | _ => none)
    | _ => none)
  | _ => none
theorem aJmp_ok {ι : aIn} {ins : Instr} {pc p1 : Nat} {G : aG} {st st1 : List tM} (h : aJmp ins pc G st = some (p1, st1)) (hG : aOk ι G) : sJmp ins pc (eS ι st) = some (p1, eS ι st1) := by
  unfold aJmp at h
  split at h
  · split at h
    · rename_i t ht
      cases h
      show (sTgt pc _).map _ = _
      rw [ht]; rfl
    · cases h
  · split at h
    · rename_i c off _ y x r
      obtain ⟨b, h⟩ := aBf h
      obtain ⟨b1, b2⟩ := aBa b
      split at h
      · rename_i b3 h3
        have h4 := aC3_ok h3 hG
        show sJmp (.if_icmp c off) pc (eT ι y :: eT ι x :: eS ι r) = _
        rw [kT_0 (aBt b1), kT_0 (aBt b2)]
        show sIf pc off (sC2 c (vI (eT ι x)) (vI (eT ι y))) (eS ι r) = _
        rw [h4]
        exact aIf_ok ι h
      · cases h
    · cases h
  · split at h
    · rename_i c off _ x r
      obtain ⟨b1, h⟩ := aBf h
      split at h
      · rename_i b3 h3
        have h4 := aC3_ok h3 hG
        show sJmp (.ifCond c off) pc (eT ι x :: eS ι r) = _
        rw [kT_0 (aBt b1)]
        show sIf pc off (sC2 c (vI (eT ι x)) 0) (eS ι r) = _
        rw [show (0 : Int32) = vI (eT ι (.int 0)) from rfl, h4]
        exact aIf_ok ι h
      · cases h
    · cases h
  · split at h
    · split at h
      · exact aIf_ok ι h
      · exact aIf_ok ι h
      · cases h
    · cases h
  · split at h
    · split at h
      · exact aIf_ok ι h
      · exact aIf_ok ι h
      · cases h
    · cases h
  · split at h
    · rename_i dflt lo hi offs _ t r
      split at h
      · rename_i x hx
        have e : eT ι t = .int x := by rw [← aNm_ok hG, hx]; rfl
        show sJmp (.tableswitch dflt lo hi offs) pc (eT ι t :: eS ι r) = _
        rw [e]
        show (if x.toInt < lo ∨ hi < x.toInt then (sTgt pc dflt).map (fun t => (t, eS ι r)) else (match offs[(x.toInt - lo).toNat]? with
          | some off => (sTgt pc off).map (fun t => (t, eS ι r))
          | none => none)) = _
        split at h
        · rename_i hc
          rw [if_pos hc]
          split at h
          · rename_i t ht
            cases h
            rw [ht]; rfl
          · cases h
        · rename_i hc
          rw [if_neg hc]
          split at h
          · rename_i off ho
            (try rw [ho])
            (try dsimp only)
            split at h
            · rename_i t ht
              cases h
              rw [ht]; rfl
            · cases h
          · cases h
      · obtain ⟨b, h⟩ := aBf h
        obtain ⟨b1, b2⟩ := aBa b
        have h0 := aIv_ok hG 6 t
        unfold aW aZ at h0
        have hc : (vI (eT ι t)).toInt < lo ∨ hi < (vI (eT ι t)).toInt := by
          rw [Bool.or_eq_true] at b2
          rcases b2 with b2 | b2
          · have b3 := of_decide_eq_true b2
            omega
          · have b3 := of_decide_eq_true b2
            omega
        show sJmp (.tableswitch dflt lo hi offs) pc (eT ι t :: eS ι r) = _
        rw [kT_0 (aBt b1)]
        show (if (vI (eT ι t)).toInt < lo ∨ hi < (vI (eT ι t)).toInt then (sTgt pc dflt).map (fun t => (t, eS ι r)) else _) = _
        rw [if_pos hc]
        split at h
        · rename_i t ht
          cases h
          rw [ht]; rfl
        · cases h
    · cases h
  · split at h
    · rename_i dflt ps _ t r
      split at h
      · rename_i x hx
        have e : eT ι t = .int x := by rw [← aNm_ok hG, hx]; rfl
        show sJmp (.lookupswitch dflt ps) pc (eT ι t :: eS ι r) = _
        rw [e]
        show (sTgt pc (Op.lookupswitch.offset ps.toList dflt x.toInt)).map (fun t => (t, eS ι r)) = _
        split at h
        · rename_i t ht
          cases h
          rw [ht]; rfl
        · cases h
      · cases h
    · cases h
  · cases h
/-! ends, calls -/
def aRet (rt : Option FieldType) (ins : Instr) (G : aG) (st : List tM) : Option (Option tM) := match ins with
  | .ireturn => (match st with
    | [t] => (match rt with
      | some .int => bif Nat.beq (kT t) 0 then some (some t) else none
      | some .boolean => bif aBo G t then some (some t) else none
      | _ => none)
    | _ => none)
  | .lreturn => (match st with
    | [t] => (match rt with
      | some .long => bif Nat.beq (kT t) 1 then some (some t) else none
      | _ => none)
    | _ => none)
  | .areturn => (match st with
    | [t] => (match rt with
      | some (.object _) => bif Nat.beq (kT t) 2 then some (some t) else none
      | _ => none)
    | _ => none)
  | .return_ => (match st with
    | [] => (match rt with
      | none => some none
      | _ => none)
    | _ => none)
  | _ => none
theorem aRet_ok {ι : aIn} {rt : Option FieldType} {ins : Instr} {G : aG} {st : List tM} {v : Option tM} (h : aRet rt ins G st = some v) (hG : aOk ι G) : sRet rt ins (eS ι st) = some (v.map (eT ι)) := by
  unfold aRet at h
  split at h
  · split at h
    · rename_i t
      split at h
      · obtain ⟨b, h⟩ := aBf h
        cases h
        show sRet (some .int) .ireturn [eT ι t] = some (some (eT ι t))
        rw [kT_0 (aBt b)]
        exact if_pos rfl
      · obtain ⟨b, h⟩ := aBf h
        cases h
        obtain ⟨x, hx, h0⟩ := aBo_ok b hG
        show sRet (some .boolean) .ireturn [eT ι t] = some (some (eT ι t))
        rw [hx]
        rcases h0 with rfl | rfl
        · exact if_pos (c := narrow .boolean (.int 0) = .int 0) (e := none) rfl
        · exact if_pos (c := narrow .boolean (.int 1) = .int 1) (e := none) rfl
      · cases h
    · cases h
  · split at h
    · rename_i t
      split at h
      · obtain ⟨b, h⟩ := aBf h
        cases h
        show sRet (some .long) .lreturn [eT ι t] = some (some (eT ι t))
        rw [kT_1 (aBt b)]
        rfl
      · cases h
    · cases h
  · split at h
    · rename_i t
      split at h
      · obtain ⟨b, h⟩ := aBf h
        cases h
        rcases kT_2 (ι := ι) (aBt b) with ⟨k, rfl⟩ | rfl <;> rfl
      · cases h
    · cases h
  · split at h
    · split at h
      · cases h; rfl
      · cases h
    · cases h
  · cases h
def aCt : List tM → Nat
  | [] => 0
  | t :: r => (bif Nat.beq (kT t) 1 then 2 else 1) + aCt r
theorem aCt_ok (ι : aIn) : ∀ st : List tM, ((eS ι st).map (fun v => v.category)).sum = aCt st := by
  intro st
  induction st with
  | nil => rfl
  | cons t r ih =>
    show (eT ι t).category + ((eS ι r).map (fun v => v.category)).sum = (bif Nat.beq (kT t) 1 then 2 else 1) + aCt r
    rw [ih, eT_cat, aBq]
    by_cases h : kT t = 1
    · rw [if_pos h, decide_eq_true h]; rfl
    · rw [if_neg h, decide_eq_false h]; rfl
theorem a_mx1 {a b : Int32} (h : a.toInt ≤ b.toInt) : (if a < b then b else a) = b := by
  by_cases q : a < b
  · rw [if_pos q]
  · rw [if_neg q]
    have q2 : ¬ a.toInt < b.toInt := fun e => q (Int32.lt_iff_toInt_lt.mpr e)
    exact Int32.toInt_inj.mp (by omega)
theorem a_mx2 {a b : Int32} (h : b.toInt ≤ a.toInt) : (if a < b then b else a) = a :=
  if_neg (fun e => by have := Int32.lt_iff_toInt_lt.mp e; omega)
theorem a_mn1 {a b : Int32} (h : a.toInt ≤ b.toInt) : (if b < a then b else a) = a :=
  if_neg (fun e => by have := Int32.lt_iff_toInt_lt.mp e; omega)
theorem a_mn2 {a b : Int32} (h : b.toInt ≤ a.toInt) : (if b < a then b else a) = b := by
  by_cases q : b < a
  · rw [if_pos q]
  · rw [if_neg q]
    have q2 : ¬ b.toInt < a.toInt := fun e => q (Int32.lt_iff_toInt_lt.mpr e)
    exact Int32.toInt_inj.mp (by omega)
def aMm (k : Nat) (p q : Int × Int) (x y : tM) : Option tM :=
  bif Nat.beq k 1000 then (bif decide (p.2 ≤ q.1) then some y else (bif decide (q.2 ≤ p.1) then some x else none))
  else (bif Nat.beq k 1001 then (bif decide (p.2 ≤ q.1) then some x else (bif decide (q.2 ≤ p.1) then some y else none)) else none)
theorem aBi {α : Type} {c : Bool} {a b : Option α} {x : α} (h : (bif c then a else b) = some x) : (c = true ∧ a = some x) ∨ (c = false ∧ b = some x) := by
  cases c with
  | true => exact Or.inl ⟨rfl, h⟩
  | false => exact Or.inr ⟨rfl, h⟩
theorem aMm_ok {ι : aIn} {k : Nat} {p q : Int × Int} {x y t : tM} (h : aMm k p q x y = some t) (kx : kT x = 0) (ky : kT y = 0) (hx : aW (aZ ι x) p) (hy : aW (aZ ι y) q) (r : List Value) : sSpec (.invokestatic k) (eT ι y :: eT ι x :: r) = some (eT ι t :: r) := by
  have ex := kT_0 (ι := ι) kx
  have ey := kT_0 (ι := ι) ky
  unfold aW aZ at hx hy
  generalize vI (eT ι x) = a at *
  generalize vI (eT ι y) = b at *
  unfold aMm at h
  rcases aBi h with ⟨k0, g⟩ | ⟨-, g⟩
  · clear h
    cases aBt k0
    show s2i (fun x y => some (.int (if x < y then y else x))) (eT ι y :: eT ι x :: r) = _
    rw [ex, ey]
    show some (Value.int (if a < b then b else a) :: r) = _
    rcases aBi g with ⟨h1, g1⟩ | ⟨-, g1⟩
    · cases g1
      have h1 := of_decide_eq_true h1
      rw [a_mx1 (by omega), ey]
    · obtain ⟨h1, g2⟩ := aBf g1
      cases g2
      have h1 := of_decide_eq_true h1
      rw [a_mx2 (by omega), ex]
  · obtain ⟨k1, g3⟩ := aBf g
    clear h g
    have g := g3
    clear g3
    cases aBt k1
    show s2i (fun x y => some (.int (if y < x then y else x))) (eT ι y :: eT ι x :: r) = _
    rw [ex, ey]
    show some (Value.int (if b < a then b else a) :: r) = _
    rcases aBi g with ⟨h1, g1⟩ | ⟨-, g1⟩
    · cases g1
      have h1 := of_decide_eq_true h1
      rw [a_mn1 (by omega), ex]
    · obtain ⟨h1, g2⟩ := aBf g1
      cases g2
      have h1 := of_decide_eq_true h1
      rw [a_mn2 (by omega), ey]
def aAb (p : Int × Int) (G : aG) (x : tM) : Option tM := bif decide (0 ≤ p.1) then some x else (bif decide (p.2 < 0) then some (aFo (.sub (.int 0) (aNm G x))) else none)
theorem aAb_ok {ι : aIn} {p : Int × Int} {G : aG} {x t : tM} (h : aAb p G x = some t) (hG : aOk ι G) (kx : kT x = 0) (hx : aW (aZ ι x) p) (r : List Value) : sSpec (.invokestatic 1002) (eT ι x :: r) = some (eT ι t :: r) := by
  have ex := kT_0 (ι := ι) kx
  have e0 : (0 : Int32).toInt = 0 := by decide
  unfold aW aZ at hx
  show (s1i (fun x => .int (if 0 ≤ x then x else 0 - x)) (eT ι x :: r)) = _
  rw [ex]
  show some (Value.int (if 0 ≤ vI (eT ι x) then vI (eT ι x) else 0 - vI (eT ι x)) :: r) = _
  unfold aAb at h
  rcases aBi h with ⟨h1, g⟩ | ⟨-, g⟩
  · cases g
    have h1 := of_decide_eq_true h1
    rw [if_pos (Int32.le_iff_toInt_le.mpr (by rw [e0]; omega)), ← ex]
  · obtain ⟨h1, g1⟩ := aBf g
    cases g1
    have h1 := of_decide_eq_true h1
    rw [if_neg (fun e => by have := Int32.le_iff_toInt_le.mp e; rw [e0] at this; omega), aFo_ok]
    show _ = some (Value.int (0 - vI (eT ι (aNm G x))) :: r)
    rw [aNm_ok hG]
def aSpec (ins : Instr) (G : aG) (st : List tM) : Option (List tM) := match ins with
  | .invokestatic k => bif Nat.beq k 1002 then (match st with
      | x :: r => bif Nat.beq (kT x) 0 then (match aAb (aIv 6 G x) G x with
        | some t => some (t :: r)
        | none => none) else none
      | _ => none)
    else (match st with
      | y :: x :: r => bif Nat.beq (kT y) 0 && Nat.beq (kT x) 0 then (match aMm k (aIv 6 G x) (aIv 6 G y) x y with
        | some t => some (t :: r)
        | none => none) else none
      | _ => none)
  | .invokespecial k => bif Nat.beq k 2000 then (match st with
    | t :: r => (match t with
      | .index _ => some r
      | _ => none)
    | _ => none) else none
  | _ => none
theorem aSpec_ok {ι : aIn} {ins : Instr} {G : aG} {st st1 : List tM} (h : aSpec ins G st = some st1) (hG : aOk ι G) : sSpec ins (eS ι st) = some (eS ι st1) := by
  unfold aSpec at h
  split at h
  · rename_i k
    rcases aBi h with ⟨hk, g⟩ | ⟨-, g⟩
    · clear h
      cases aBt hk
      split at g
      · rename_i x r
        obtain ⟨b, g1⟩ := aBf g
        split at g1
        · rename_i t ht
          cases g1
          exact aAb_ok ht hG (aBt b) (aIv_ok hG 6 x) (eS ι r)
        · cases g1
      · cases g
    · clear h
      split at g
      · rename_i y x r
        obtain ⟨b, g1⟩ := aBf g
        obtain ⟨b1, b2⟩ := aBa b
        split at g1
        · rename_i t ht
          cases g1
          exact aMm_ok ht (aBt b2) (aBt b1) (aIv_ok hG 6 x) (aIv_ok hG 6 y) (eS ι r)
        · cases g1
      · cases g
  · obtain ⟨b, g⟩ := aBf h
    clear h
    cases aBt b
    split at g
    · split at g
      · cases g
        rfl
      · cases g
    · cases g
  · cases h
def aPop (n : Nat) (st : List tM) : Option (List tM × List tM) := bif Nat.ble n st.length then some ((st.take n).reverse, st.drop n) else none
theorem aPop_ok (ι : aIn) {n : Nat} {st as r : List tM} (h : aPop n st = some (as, r)) : sPop n (eS ι st) = some (eS ι as, eS ι r) := by
  unfold aPop at h
  obtain ⟨b, h⟩ := aBf h
  cases h
  unfold sPop
  rw [if_pos (by rw [List.length_map]; exact Nat.le_of_ble_eq_true b)]
  unfold eS
  rw [List.map_reverse, List.map_take, List.map_drop]
def aObj (h : aHp) (a : Nat) : Option Nat := match aCe h a with
  | (c, _, _) => bif Nat.blt a h.1 && Nat.blt c 20 then some c else none
theorem aObj_ok (ι : aIn) {h : aHp} {a c : Nat} (g : aObj h a = some c) : ∃ fs, (eH ι h)[a]? = some (.inr (c, fs)) := by
  unfold aObj at g
  split at g
  rename_i c' n l hc
  obtain ⟨b, g⟩ := aBf g
  cases g
  obtain ⟨b1, b2⟩ := aBa b
  exact ⟨_, by rw [eH_at ι (aBl b1), hc, eC_o ι (c := (c, n, l)) (aBl b2)]⟩
def aCal (ins : Instr) (st : List tM) (h : aHp) : Option (Nat × List tM × List tM) := match ins with
  | .invokestatic k => (match aPop (sNA k) st with
    | some (as, r) => some (k, as, r)
    | none => none)
  | .invokespecial k => (match aPop (sNA k) st with
    | some (as, r) => (match r with
      | t :: r => (match t with
        | .index b => (match aObj h b with
          | some _ => some (k, .index b :: as, r)
          | none => none)
        | _ => none)
      | _ => none)
    | none => none)
  | .invokevirtual k => bif Nat.blt k 1000 then (match aPop (sNA k) st with
    | some (as, r) => (match r with
      | t :: r => (match t with
        | .index b => (match aObj h b with
          | some c => bif Nat.beq c (sOwn k) then some (k, .index b :: as, r) else none
          | none => none)
        | _ => none)
      | _ => none)
    | none => none) else (match aPop (sVt k 100) st with
    | some (as, r) => (match r with
      | t :: r => (match t with
        | .index b => (match aObj h b with
          | some c => bif Nat.beq (sGrp c) 2 && Nat.blt c 11 then some (sVt k c, .index b :: as, r) else none
          | none => none)
        | _ => none)
      | _ => none)
    | none => none)
  | _ => none
theorem aCal_ok (ι : aIn) {ins : Instr} {st as rest : List tM} {h : aHp} {k : Nat} (g : aCal ins st h = some (k, as, rest)) : sCal sNA sOwn sVt ins (eS ι st) (eH ι h) = some (k, eS ι as, eS ι rest) := by
  unfold aCal at g
  split at g
  · split at g
    · rename_i as1 r hp
      cases g
      show (sPop _ _).map _ = _
      rw [aPop_ok ι hp]; rfl
    · cases g
  · split at g
    · rename_i as1 r hp
      split at g
      · rename_i t r
        split at g
        · rename_i b
          split at g
          · rename_i c hc
            cases g
            obtain ⟨fs, hf⟩ := aObj_ok ι hc
            show (sPop _ _).bind _ = _
            rw [aPop_ok ι hp, Option.bind_some]
            show (match (eH ι h)[b]? with
              | some (.inr _) => some (_, Value.ref b :: eS ι as1, eS ι rest)
              | _ => none) = _
            rw [hf]
            rfl
          · cases g
        · cases g
      · cases g
    · cases g
  · rename_i k1
    cases hk : Nat.blt k1 1000 with
    | true =>
      rw [hk] at g
      dsimp only [cond] at g
      split at g
      · rename_i as1 r hp
        split at g
        · rename_i t r
          split at g
          · rename_i b
            split at g
            · rename_i c hc
              obtain ⟨b1, g⟩ := aBf g
              cases g
              obtain ⟨fs, hf⟩ := aObj_ok ι hc
              show (if k < 1000 then (sPop (sNA k) _).bind _ else _) = _
              rw [if_pos (aBl hk), aPop_ok ι hp, Option.bind_some]
              show (match (eH ι h)[b]? with
                | some (.inr (ci, _)) => if ci = sOwn k then some (k, Value.ref b :: eS ι as1, eS ι rest) else none
                | _ => none) = _
              rw [hf]
              exact if_pos (aBt b1)
            · cases g
          · cases g
        · cases g
      · cases g
    | false =>
      rw [hk] at g
      dsimp only [cond] at g
      split at g
      · rename_i as1 r hp
        split at g
        · rename_i t r
          split at g
          · rename_i b
            split at g
            · rename_i c hc
              obtain ⟨b1, g⟩ := aBf g
              cases g
              obtain ⟨b2, b3⟩ := aBa b1
              obtain ⟨fs, hf⟩ := aObj_ok ι hc
              show (if k1 < 1000 then _ else (sPop (sVt k1 100) _).bind _) = _
              rw [if_neg (fun e => by rw [show Nat.blt k1 1000 = true from Nat.ble_eq_true_of_le e] at hk; cases hk), aPop_ok ι hp, Option.bind_some]
              show (match (eH ι h)[b]? with
                | some (.inr (ci, _)) => if sGrp ci = 2 ∧ ci < 11 then some (sVt k1 ci, Value.ref b :: eS ι as1, eS ι rest) else none
                | _ => none) = _
              rw [hf]
              exact if_pos ⟨aBt b2, aBl b3⟩
            · cases g
          · cases g
        · cases g
      · cases g
  · cases g
def aIniA : List tM → aLo
  | [] => []
  | t :: r => bif Nat.beq (kT t) 1 then some t :: none :: aIniA r else some t :: aIniA r
def aIni (nL : Nat) (as : List tM) : Option aLo := bif Nat.ble (aIniA as).length nL then some (aIniA as ++ List.replicate (nL - (aIniA as).length) none) else none
theorem aIniA_ok (ι : aIn) : ∀ as : List tM, sIniA (eS ι as) = eL ι (aIniA as) := by
  intro as
  induction as with
  | nil => rfl
  | cons t r ih =>
    show (if (eT ι t).category = 2 then some (eT ι t) :: none :: sIniA (eS ι r) else some (eT ι t) :: sIniA (eS ι r)) = eL ι (bif Nat.beq (kT t) 1 then some t :: none :: aIniA r else some t :: aIniA r)
    rw [ih, eT_cat, aBq]
    by_cases h : kT t = 1
    · rw [if_pos h, if_pos rfl, decide_eq_true h]; rfl
    · rw [if_neg h, if_neg (by decide), decide_eq_false h]; rfl
theorem aIni_ok (ι : aIn) {nL : Nat} {as : List tM} {L : aLo} (h : aIni nL as = some L) : sIni nL (eS ι as) = some (eL ι L) := by
  unfold aIni at h
  obtain ⟨b, h⟩ := aBf h
  cases h
  unfold sIni
  have e1 : (eS ι as).all sNd = true := by
    rw [List.all_map, List.all_eq_true]
    intro t _
    exact eT_nd ι t
  rw [aIniA_ok, List.length_map, if_pos ⟨e1, Nat.le_of_ble_eq_true b⟩]
  unfold eL
  rw [List.map_append, List.map_replicate]; rfl
/-! ===== the run ===== -/
def aFt : List sEt → Nat → Option Instr
  | [], _ => none
  | e :: r, p => bif Nat.beq e.1 p then some e.2.2.1 else aFt r p
theorem aFt_eq (p : Nat) : ∀ l : List sEt, aFt l p = (match l.find? (fun e => e.1 == p) with
  | some e => some e.2.2.1
  | none => none) := by
  intro l
  induction l with
  | nil => rfl
  | cons e r ih =>
    unfold aFt
    rw [aBq, ih, List.find?_cons]
    by_cases h : e.1 = p
    · rw [decide_eq_true h, show (e.1 == p) = true from beq_iff_eq.mpr h]; rfl
    · rw [decide_eq_false h, show (e.1 == p) = false from beq_eq_false_iff_ne.mpr h]; rfl
def aFk (k pc : Nat) : Option Instr := match aNth sMs k with
  | some q => aFt (mT q) pc
  | none => none
theorem aFk_eq (k pc : Nat) : aFk k pc = sFk k pc := by
  unfold aFk sFk sM
  rw [aNth_eq]
  cases sMs[k]? with
  | none => rfl
  | some q => exact aFt_eq pc (mT q)
def aAll : List aG → (aG → Bool) → Bool
  | [], _ => false
  | g :: r, f => f g && r.all f
theorem aAll_ok {ι : aIn} {l : List aG} {f : aG → Bool} (hl : aFo2 ι l) (h : aAll l f = true) : ∃ G', aOk ι G' ∧ f G' = true := by
  cases l with
  | nil => cases h
  | cons g r =>
    obtain ⟨h1, h2⟩ := aBa h
    obtain ⟨G', hm, ho⟩ := hl (fun e => by cases e)
    rcases List.mem_cons.mp hm with rfl | hm
    · exact ⟨_, ho, h1⟩
    · exact ⟨G', ho, List.all_eq_true.mp h2 G' hm⟩
abbrev aKt : Type := Option tM → aHp → aG → Bool
abbrev aRt : Type := Bool → Nat → Nat → Nat → aLo → List tM → aHp → aG → aKt → Bool
def aQ (ι : aIn) (K : aKt) (r : Option Value) (h : sHp) : Prop := ∃ (t : Option tM) (hf : aHp) (Gf : aG), K t hf Gf = true ∧ aOk ι Gf ∧ r = t.map (eT ι) ∧ h = eH ι hf
def aScr (ins : Instr) (G : aG) (st : List tM) (h : aHp) : Option (List tM × aHp) := match ins with
  | .arraylength => (match st with
    | t :: r => (match t with
      | .index a => bif Nat.beq a 1000000 then some (.arg 10 :: r, h) else none
      | _ => none)
    | _ => none)
  | .iaload => (match st with
    | i :: t :: r => (match t with
      | .index a => (match aNt G i with
        | some j => bif Nat.beq a 1000000 && (Nat.blt j 6 && decide ((j : Int) < (aIv 6 G (.arg 10)).1)) then aF j (fun j => some (.arg j :: r, h)) else none
        | none => none)
      | _ => none)
    | _ => none)
  | ins => aHeap ins G st h
def aHp2 (b : Bool) (ins : Instr) (G : aG) (st : List tM) (h : aHp) : Option (List tM × aHp) := match b with
  | false => aHeap ins G st h
  | true => aScr ins G st h
def aStep (c : Bool) (K2 : Nat → aLo → List tM → aHp → aG → Bool) (R : aRt) : aRt := fun b d k pc L st h G K =>
  bif b && K2 pc L st h G then true else (match aFk k pc with
    | none => false
    | some ins => (match sKnd ins with
      | 0 => (match aPure ins G st with
        | some st1 => aF (pc + sLen ins) (fun p => R b d k p L st1 h G K)
        | none => false)
      | 1 => (match aLoc ins G L st with
        | some (L1, st1) => aF (pc + sLen ins) (fun p => R b d k p L1 st1 h G K)
        | none => false)
      | 2 => (match aHp2 (b && c) ins G st h with
        | some (st1, h1) => aF (pc + sLen ins) (fun p => R b d k p L st1 h1 G K)
        | none => aAll (aFrk ins G st) (fun G1 => R b d k pc L st h G1 K))
      | 3 => (match aJmp ins pc G st with
        | some (p1, st1) => aF p1 (fun p => R b d k p L st1 h G K)
        | none => aAll (aFrk ins G st) (fun G1 => R b d k pc L st h G1 K))
      | 4 => (match sRk k with
        | some rt => (match aRet rt ins G st with
          | some v => K v h G
          | none => false)
        | none => false)
      | 5 => (match aCal ins st h with
        | some (k1, as, rest) => bif Nat.ble (aCt rest) 8 then (match d with
          | d1 + 1 => (match sNk k1 with
            | some nL => (match aIni nL as with
              | some L1 => R false d1 k1 0 L1 [] h G (fun t hf Gf => aF (pc + 3) (fun p => R b d k p L (t.toList ++ rest) hf Gf K))
              | none => false)
            | none => false)
          | 0 => false) else false
        | none => false)
      | 6 => bif Nat.ble (aCt st) 10 then (match aSpec ins G st with
        | some st1 => aF (pc + 3) (fun p => R b d k p L st1 h G K)
        | none => aAll (aFrk ins G st) (fun G1 => R b d k pc L st h G1 K)) else false
      | _ => false))
def aXb (X : sX) (b : Bool) : sX := match b with
  | true => X
  | false => none
def aQb (b : Bool) (Q0 Q1 : Option Value → sHp → Prop) : Option Value → sHp → Prop := match b with
  | true => Q0
  | false => Q1
def aSnd (ι : aIn) (X : sX) (k0 d0 : Nat) (K0 : aKt) (Q0 : Option Value → sHp → Prop) (R : aRt) : Prop := ∀ (b : Bool) (d k pc : Nat) (L : aLo) (st : List tM) (h : aHp) (G : aG) (K : aKt), R b d k pc L st h G K = true → aOk ι G → (b = true → K = K0 ∧ d = d0 ∧ k = k0) → sGo (aXb X b) k d pc (eL ι L) (eS ι st) (eH ι h) (aQb b Q0 (aQ ι K))
def aHX (ι : aIn) (X : sX) : Prop := ∃ (N : Nat) (xs : Nat → Int32), X = some (N, xs) ∧ N ≤ 3072 ∧ ι.1 10 = Int32.ofNat N ∧ ∀ i, i < 6 → ι.1 i = xs i
def aHXc (ι : aIn) (c : Bool) (X : sX) : Prop := (c = true → aHX ι X) ∧ (c = false → X = none)
theorem aHp2_ok {ι : aIn} {X : sX} {k d pc : Nat} {L : sLo} {Q : Option Value → sHp → Prop} {b c : Bool} {ins : Instr} {G : aG} {st st1 : List tM} {h h1 : aHp} (HXc : aHXc ι c X) (hF : sFk k pc = some ins) (hk : sKnd ins = 2) (e : aHp2 (b && c) ins G st h = some (st1, h1)) (hG : aOk ι G) (g : sGo (aXb X b) k d (pc + sLen ins) L (eS ι st1) (eH ι h1) Q) : sGo (aXb X b) k d pc L (eS ι st) (eH ι h) Q := by
  cases hbc : (b && c) with
  | false =>
    rw [hbc] at e
    refine go_heap hF hk ?_ (aHeap_ok e hG) g
    have e1 : aXb X b = none := by
      cases b with
      | false => rfl
      | true => exact HXc.2 hbc
    rw [e1]
    rfl
  | true =>
    rw [hbc] at e
    obtain ⟨rfl, rfl⟩ := aBa hbc
    obtain ⟨N, xs, rfl, hN, hι, hxs⟩ := HXc.1 rfl
    change aScr ins G st h = some (st1, h1) at e
    unfold aScr at e
    split at e
    · split at e
      · rename_i t r
        split at e
        · rename_i a
          obtain ⟨b1, e⟩ := aBf e
          cases e
          refine go_scr (st1 := .int (Int32.ofNat N) :: eS ι r) hF hk ?_ ?_
          · show (if a = 1000000 then some (Value.int (Int32.ofNat N) :: eS ι r) else none) = _
            exact if_pos (aBt b1)
          · have e1 : eS ι (.arg 10 :: r) = .int (Int32.ofNat N) :: eS ι r := by
              show Value.int (ι.1 10) :: eS ι r = _
              rw [hι]
            rw [← e1]
            exact g
        · cases e
      · cases e
    · split at e
      · rename_i i t r
        split at e
        · rename_i a
          split at e
          · rename_i j hj
            rw [aF_eq] at e
            obtain ⟨b1, e⟩ := aBf e
            cases e
            obtain ⟨b1, b2⟩ := aBa b1
            obtain ⟨b2, b3⟩ := aBa b2
            have b3 := of_decide_eq_true b3
            obtain ⟨x, x1, -, x2, x3⟩ := aNt_ok hj hG
            have h0 := aIv_ok hG 6 (.arg 10)
            unfold aW at h0
            have h9 : aZ ι (.arg 10) = (N : Int) := by
              show (ι.1 10).toInt = _
              rw [hι]
              exact Int32.toInt_ofNat_of_lt (by omega)
            have hj6 := aBl b2
            refine go_scr (st1 := .int (xs j) :: eS ι r) hF hk ?_ ?_
            · show sScr (some (N, xs)) .iaload (eT ι i :: .ref a :: eS ι r) = _
              rw [x1]
              show (if a = 1000000 ∧ ¬ (x < 0 ∨ N ≤ x.toNatClampNeg) then some (Value.int (xs x.toNatClampNeg) :: eS ι r) else none) = _
              rw [if_pos ⟨aBt b1, by rw [x3]; exact fun e => e.elim x2 (fun e => by omega)⟩, x3]
            · have e1 : eS ι (.arg j :: r) = .int (xs j) :: eS ι r := by
                show (if j < 1000 then Value.int (ι.1 j) else _) :: eS ι r = _
                rw [if_pos (by omega), hxs j hj6]
              rw [← e1]
              exact g
          · cases e
        · cases e
      · cases e
    · rename_i n1 n2
      refine go_heap hF hk ?_ (aHeap_ok e hG) g
      show sScr (some (N, xs)) ins (eS ι st) = none
      unfold sScr
      dsimp only
      split
      · exact absurd rfl n1
      · exact absurd rfl n2
      · rfl
theorem aStep_ok {ι : aIn} {X : sX} {c : Bool} {k0 d0 : Nat} {K0 : aKt} {Q0 : Option Value → sHp → Prop} {K2 : Nat → aLo → List tM → aHp → aG → Bool} {R : aRt} (HX : aHXc ι c X) (HK2 : ∀ (pc : Nat) (L : aLo) (st : List tM) (h : aHp) (G : aG), K2 pc L st h G = true → aOk ι G → sGo X k0 d0 pc (eL ι L) (eS ι st) (eH ι h) Q0) (HK0 : ∀ r h, aQ ι K0 r h → Q0 r h) (HR : aSnd ι X k0 d0 K0 Q0 R) : aSnd ι X k0 d0 K0 Q0 (aStep c K2 R) := by
  intro b d k pc L st h G K g hG hb
  unfold aStep at g
  cases hk2 : (b && K2 pc L st h G) with
  | true =>
    obtain ⟨rfl, b2⟩ := aBa hk2
    obtain ⟨rfl, rfl, rfl⟩ := hb rfl
    exact HK2 pc L st h G b2 hG
  | false =>
    rw [hk2] at g
    dsimp only [cond] at g
    split at g
    · cases g
    · rename_i ins hF
      rw [aFk_eq] at hF
      split at g
      · rename_i hk
        split at g
        · rename_i st1 e
          rw [aF_eq] at g
          exact go_pure hF hk (aPure_ok e hG) (HR _ _ _ _ _ _ _ _ _ g hG hb)
        · cases g
      · rename_i hk
        split at g
        · rename_i L1 st1 e
          rw [aF_eq] at g
          exact go_loc hF hk (aLoc_ok e hG) (HR _ _ _ _ _ _ _ _ _ g hG hb)
        · cases g
      · rename_i hk
        split at g
        · rename_i st1 h1 e
          rw [aF_eq] at g
          exact aHp2_ok HX hF hk e hG (HR _ _ _ _ _ _ _ _ _ g hG hb)
        · obtain ⟨G1, ho, g1⟩ := aAll_ok (aFrk_ok ins st hG) g
          exact HR _ _ _ _ _ _ _ _ _ g1 ho hb
      · rename_i hk
        split at g
        · rename_i p1 st1 e
          rw [aF_eq] at g
          exact go_jmp hF hk (aJmp_ok e hG) (HR _ _ _ _ _ _ _ _ _ g hG hb)
        · obtain ⟨G1, ho, g1⟩ := aAll_ok (aFrk_ok ins st hG) g
          exact HR _ _ _ _ _ _ _ _ _ g1 ho hb
      · rename_i hk
        split at g
        · rename_i rt hrt
          split at g
          · rename_i v e
            have hq : aQ ι K (v.map (eT ι)) (eH ι h) := ⟨v, h, G, g, hG, rfl, rfl⟩
            refine go_ret hF hk hrt (aRet_ok e hG) ?_
            cases b with
            | false => exact hq
            | true =>
              obtain ⟨rfl, -, -⟩ := hb rfl
              exact HK0 _ _ hq
          · cases g
        · cases g
      · rename_i hk
        split at g
        · rename_i k1 as rest e
          cases hc : Nat.ble (aCt rest) 8 with
          | false => rw [hc] at g; cases g
          | true =>
            rw [hc] at g
            dsimp only [cond] at g
            split at g
            · rename_i d1
              split at g
              · rename_i nL hn
                split at g
                · rename_i L1 hi
                  refine go_call hF hk (aCal_ok ι e) (by rw [aCt_ok]; exact Nat.le_of_ble_eq_true hc) (sDo_of hn (aIni_ok ι hi) (HR false _ _ _ _ _ _ _ _ g hG (fun e => by cases e))) ?_
                  rintro r h1 ⟨t, hf, Gf, g1, ho, rfl, rfl⟩
                  dsimp only at g1
                  rw [aF_eq] at g1
                  have g2 := HR _ _ _ _ _ _ _ _ _ g1 ho hb
                  have e2 : eS ι (t.toList ++ rest) = (t.map (eT ι)).toList ++ eS ι rest := by
                    cases t <;> rfl
                  rw [e2] at g2
                  exact g2
                · cases g
              · cases g
            · cases g
        · cases g
      · rename_i hk
        cases hc : Nat.ble (aCt st) 10 with
        | false => rw [hc] at g; cases g
        | true =>
          rw [hc] at g
          dsimp only [cond] at g
          split at g
          · rename_i st1 e
            rw [aF_eq] at g
            exact go_spec hF hk (by rw [aCt_ok]; exact Nat.le_of_ble_eq_true hc) (aSpec_ok e hG) (HR _ _ _ _ _ _ _ _ _ g hG hb)
          · obtain ⟨G1, ho, g1⟩ := aAll_ok (aFrk_ok ins st hG) g
            exact HR _ _ _ _ _ _ _ _ _ g1 ho hb
      · cases g
def aRun (c : Bool) (K2 : Nat → aLo → List tM → aHp → aG → Bool) : Nat → aRt
  | 0 => fun _ _ _ _ _ _ _ _ _ => false
  | n + 1 => aStep c K2 (aRun c K2 n)
theorem aRun_ok {ι : aIn} {X : sX} {c : Bool} {k0 d0 : Nat} {K0 : aKt} {Q0 : Option Value → sHp → Prop} {K2 : Nat → aLo → List tM → aHp → aG → Bool} (HX : aHXc ι c X) (HK2 : ∀ (pc : Nat) (L : aLo) (st : List tM) (h : aHp) (G : aG), K2 pc L st h G = true → aOk ι G → sGo X k0 d0 pc (eL ι L) (eS ι st) (eH ι h) Q0) (HK0 : ∀ r h, aQ ι K0 r h → Q0 r h) : ∀ n, aSnd ι X k0 d0 K0 Q0 (aRun c K2 n) := by
  intro n
  induction n with
  | zero => intro b d k pc L st h G K g; cases g
  | succ n ih => exact aStep_ok HX HK2 HK0 ih
end
section
/-! ===== the second executor: kinds of places, their types, what stays ===== -/
abbrev bN : Type := Nat ⊕ Int
abbrev bV : Type := bN ⊕ (Nat × Nat)
abbrev bTy : Type := (Int × Int) ⊕ (Nat × Nat)
abbrev bCt : Type := (Nat × Nat × bTy × List Int) ⊕ (Nat × List bTy)
def bKl : List Nat := [0, 1, 2, 3, 4, 5, 6, 7, 8, 82, 82, 82, 82, 82, 14, 15, 16, 17, 18, 19, 83, 83, 83, 83, 83, 25, 26, 27, 28, 29, 30, 84, 84, 84, 84, 84, 36, 37, 38, 39, 40, 41, 42, 43, 80, 81, 80, 81, 80, 81, 80, 81, 80, 81, 80, 81, 80, 81, 80, 81, 60, 61, 62, 63, 64, 65, 66, 67, 68, 69, 70, 71, 72, 73, 74, 75, 76, 77, 78]
def bG0 : List (Option bCt) := [some (.inr (11, [.inr (2, 1), .inr (2, 2), .inr (2, 3), .inr (2, 5), .inr (2, 16), .inr (2, 27), .inr (2, 38), .inr (2, 42), .inr (2, 43), .inl (.ofNat 0, .ofNat 1), .inl (.negSucc 2147483647, .ofNat 2147483647)])), some (.inl (3, 8, .inr (2, 80), [])), some (.inl (4, 8, .inr (3, 113), [])), some (.inr (7, [.inl (.negSucc 0, .ofNat 3), .inl (.ofNat 0, .ofNat 100), .inr (2, 4)])), some (.inl (1, 100, .inr (0, 0), [])), some (.inr (3, [.inl (.ofNat 2, .ofNat 8), .inl (.ofNat 2, .ofNat 8), .inr (0, 0), .inr (0, 0), .inr (0, 0), .inr (0, 0), .inr (0, 0), .inl (.negSucc 2147483647, .ofNat 2147483647), .inl (.negSucc 0, .ofNat 63), .inl (.negSucc 0, .ofNat 63), .inl (.negSucc 2147483647, .ofNat 2147483647), .inl (.ofNat 0, .ofNat 5), .inr (2, 6), .inr (2, 7), .inr (2, 8), .inr (2, 14), .inr (2, 15)])), some (.inl (1, 6, .inr (0, 0), [])), some (.inl (0, 5, .inl (.negSucc 2147483647, .ofNat 2147483647), [])), some (.inl (5, 5, .inr (2, 82), [])), none, none, none, none, none, some (.inl (2, 5, .inl (.ofNat 0, .ofNat 1), [])), some (.inl (1, 7, .inr (0, 0), []))]
def bG1 : List (Option bCt) := [some (.inr (3, [.inl (.ofNat 2, .ofNat 8), .inl (.ofNat 2, .ofNat 8), .inr (0, 0), .inr (0, 0), .inr (0, 0), .inr (0, 0), .inr (0, 0), .inl (.negSucc 2147483647, .ofNat 2147483647), .inl (.negSucc 0, .ofNat 63), .inl (.negSucc 0, .ofNat 63), .inl (.negSucc 2147483647, .ofNat 2147483647), .inl (.ofNat 0, .ofNat 5), .inr (2, 17), .inr (2, 18), .inr (2, 19), .inr (2, 25), .inr (2, 26)])), some (.inl (1, 6, .inr (0, 0), [])), some (.inl (0, 5, .inl (.negSucc 2147483647, .ofNat 2147483647), [])), some (.inl (5, 5, .inr (2, 83), [])), none, none, none, none, none, some (.inl (2, 5, .inl (.ofNat 0, .ofNat 1), [])), some (.inl (1, 7, .inr (0, 0), [])), some (.inr (3, [.inl (.ofNat 2, .ofNat 8), .inl (.ofNat 2, .ofNat 8), .inr (0, 0), .inr (0, 0), .inr (0, 0), .inr (0, 0), .inr (0, 0), .inl (.negSucc 2147483647, .ofNat 2147483647), .inl (.negSucc 0, .ofNat 63), .inl (.negSucc 0, .ofNat 63), .inl (.negSucc 2147483647, .ofNat 2147483647), .inl (.ofNat 0, .ofNat 5), .inr (2, 28), .inr (2, 29), .inr (2, 30), .inr (2, 36), .inr (2, 37)])), some (.inl (1, 6, .inr (0, 0), [])), some (.inl (0, 5, .inl (.negSucc 2147483647, .ofNat 2147483647), [])), some (.inl (5, 5, .inr (2, 84), [])), none]
def bG2 : List (Option bCt) := [none, none, none, none, some (.inl (2, 5, .inl (.ofNat 0, .ofNat 1), [])), some (.inl (1, 7, .inr (0, 0), [])), some (.inr (8, [.inl (.negSucc 2147483647, .ofNat 2147483647), .inl (.negSucc 2147483647, .ofNat 2147483647), .inr (0, 0), .inr (0, 0), .inl (.negSucc 2147483647, .ofNat 2147483647), .inl (.negSucc 2147483647, .ofNat 2147483647), .inl (.ofNat 0, .ofNat 644), .inr (2, 39), .inr (2, 40), .inr (2, 41)])), some (.inl (0, 644, .inl (.negSucc 2147483647, .ofNat 2147483647), [])), some (.inl (1, 644, .inr (0, 0), [])), some (.inl (1, 7, .inr (0, 0), [])), some (.inl (1, 7, .inr (0, 0), [])), some (.inl (0, 8, .inl (.negSucc 2147483647, .ofNat 2147483647), [])), none, none, none, none]
def bG3 : List (Option bCt) := [none, none, none, none, none, none, none, none, none, none, none, none, some (.inr (12, [.inl (.ofNat 2, .ofNat 8), .inl (.ofNat 2, .ofNat 8), .inl (.negSucc 2147483647, .ofNat 2147483647), .inl (.negSucc 0, .ofNat 63), .inl (.negSucc 0, .ofNat 63), .inl (.negSucc 2147483647, .ofNat 2147483647), .inl (.ofNat 0, .ofNat 5), .inl (.negSucc 2147483647, .ofNat 2147483647), .inr (2, 61), .inr (2, 62), .inr (2, 63), .inr (2, 64), .inr (2, 65), .inr (2, 66), .inr (2, 67), .inr (2, 68), .inr (2, 69), .inr (2, 70), .inr (2, 71), .inr (2, 72), .inr (2, 73), .inl (.ofNat 0, .ofNat 700), .inl (.ofNat 0, .ofNat 100), .inl (.ofNat 0, .ofNat 100), .inl (.negSucc 2147483647, .ofNat 2147483647), .inl (.negSucc 2147483647, .ofNat 2147483647), .inr (2, 74), .inr (2, 75), .inl (.negSucc 2147483647, .ofNat 2147483647), .inr (2, 76), .inr (2, 77), .inl (.ofNat 0, .ofNat 999), .inl (.negSucc 2147483647, .ofNat 2147483647), .inl (.negSucc 2147483647, .ofNat 2147483647), .inl (.negSucc 2147483647, .ofNat 2147483647), .inr (2, 78), .inl (.ofNat 0, .ofNat 20), .inl (.ofNat 0, .ofNat 1)])), some (.inl (0, 8, .inl (.negSucc 2147483647, .ofNat 2147483647), [])), some (.inl (0, 64, .inl (.ofNat 0, .ofNat 5), [])), some (.inl (0, 64, .inl (.negSucc 2147483647, .ofNat 2147483647), []))]
def bG4 : List (Option bCt) := [some (.inl (0, 5, .inl (.ofNat 0, .ofNat 9), [])), some (.inl (0, 5, .inl (.negSucc 2147483647, .ofNat 2147483647), [])), some (.inl (0, 30, .inl (.negSucc 2147483647, .ofNat 2147483647), [])), some (.inl (0, 8, .inl (.ofNat 0, .ofNat 2), [])), some (.inl (0, 8, .inl (.negSucc 2147483647, .ofNat 2147483647), [])), some (.inl (0, 8, .inl (.ofNat 0, .ofNat 100), [])), some (.inl (0, 8, .inl (.negSucc 2147483647, .ofNat 2147483647), [])), some (.inl (1, 800, .inr (0, 0), [])), some (.inl (1, 100, .inr (0, 0), [])), some (.inl (0, 42, .inl (.ofNat 0, .ofNat 255), [.ofNat 115, .ofNat 105, .ofNat 122, .ofNat 101, .ofNat 32, .ofNat 0, .ofNat 115, .ofNat 111, .ofNat 105, .ofNat 108, .ofNat 32, .ofNat 0, .ofNat 114, .ofNat 111, .ofNat 97, .ofNat 100, .ofNat 32, .ofNat 0, .ofNat 119, .ofNat 101, .ofNat 108, .ofNat 108, .ofNat 32, .ofNat 0, .ofNat 111, .ofNat 97, .ofNat 107, .ofNat 32, .ofNat 0, .ofNat 115, .ofNat 109, .ofNat 97, .ofNat 108, .ofNat 108, .ofNat 32, .ofNat 0, .ofNat 104, .ofNat 101, .ofNat 105, .ofNat 114, .ofNat 32, .ofNat 0])), some (.inl (0, 180, .inl (.negSucc 2147483647, .ofNat 2147483647), [])), some (.inl (0, 180, .inl (.negSucc 2147483647, .ofNat 2147483647), [])), some (.inl (0, 1000, .inl (.negSucc 2147483647, .ofNat 2147483647), [])), some (.inl (0, 64, .inl (.negSucc 2147483647, .ofNat 2147483647), [])), some (.inl (0, 20, .inl (.negSucc 2147483647, .ofNat 2147483647), [])), none]
def bG5 : List (Option bCt) := [some (.inr (7, [.inl (.negSucc 0, .ofNat 3), .inl (.ofNat 0, .ofNat 100), .inr (2, 81)])), some (.inl (1, 100, .inr (0, 0), [])), some (.inl (0, 6, .inl (.negSucc 2147483647, .ofNat 2147483647), [])), some (.inl (0, 6, .inl (.negSucc 2147483647, .ofNat 2147483647), [])), some (.inl (0, 6, .inl (.negSucc 2147483647, .ofNat 2147483647), [])), none, none, none, none, none, none, none, none, none, none, none]
def bG6 : List (Option bCt) := [none, none, none, none, some (.inr (0, [.inl (.negSucc 2147483647, .ofNat 2147483647), .inl (.ofNat 0, .ofNat 7), .inl (.negSucc 2147483647, .ofNat 2147483647), .inl (.negSucc 2147483647, .ofNat 2147483647), .inl (.negSucc 2147483647, .ofNat 2147483647), .inr (2, 3)])), some (.inr (1, [.inl (.negSucc 2147483647, .ofNat 2147483647), .inl (.ofNat 0, .ofNat 7), .inl (.negSucc 2147483647, .ofNat 2147483647), .inl (.negSucc 2147483647, .ofNat 2147483647), .inl (.negSucc 2147483647, .ofNat 2147483647), .inr (2, 3)])), some (.inr (2, [.inl (.negSucc 2147483647, .ofNat 2147483647), .inl (.ofNat 0, .ofNat 7), .inl (.negSucc 2147483647, .ofNat 2147483647), .inl (.negSucc 2147483647, .ofNat 2147483647), .inl (.negSucc 2147483647, .ofNat 2147483647), .inr (2, 3)])), none, some (.inr (4, [.inl (.negSucc 2147483647, .ofNat 2147483647), .inl (.ofNat 0, .ofNat 7), .inl (.negSucc 2147483647, .ofNat 2147483647), .inl (.negSucc 2147483647, .ofNat 2147483647), .inl (.negSucc 2147483647, .ofNat 2147483647), .inr (2, 3)])), some (.inr (5, [.inl (.negSucc 2147483647, .ofNat 2147483647), .inl (.ofNat 0, .ofNat 7), .inl (.negSucc 2147483647, .ofNat 2147483647), .inl (.negSucc 2147483647, .ofNat 2147483647), .inl (.negSucc 2147483647, .ofNat 2147483647), .inr (2, 3)])), some (.inr (6, [.inl (.negSucc 2147483647, .ofNat 2147483647), .inr (2, 80), .inr (2, 27), .inl (.negSucc 2147483647, .ofNat 2147483647)])), none, none, some (.inr (9, [.inl (.negSucc 2147483647, .ofNat 2147483647), .inl (.ofNat 0, .ofNat 7), .inl (.negSucc 2147483647, .ofNat 2147483647), .inl (.negSucc 2147483647, .ofNat 2147483647), .inl (.negSucc 2147483647, .ofNat 2147483647), .inr (2, 3)])), some (.inr (10, [.inl (.negSucc 2147483647, .ofNat 2147483647), .inl (.ofNat 0, .ofNat 7), .inl (.negSucc 2147483647, .ofNat 2147483647), .inl (.negSucc 2147483647, .ofNat 2147483647), .inl (.negSucc 2147483647, .ofNat 2147483647), .inr (2, 3)])), none]
def bG7 : List (Option bCt) := [none, none, none, none, none, none, none, none, none, none, none, none, none, none, none, none]
def bGl : List (List (Option bCt)) := [bG0, bG1, bG2, bG3, bG4, bG5, bG6, bG7]
def bKp (p : Nat) (c : va_E) : Nat := match bKl[p]? with
  | some K => K
  | none => (match c with
    | .inr (ci, _) => 100 + ci
    | .inl _ => 99)
def bIsC (κ : Nat) : Bool := Nat.beq κ 100 || (Nat.beq κ 101 || (Nat.beq κ 102 || (Nat.beq κ 104 || (Nat.beq κ 105 || (Nat.beq κ 109 || Nat.beq κ 110)))))
def bKK (κ K : Nat) : Bool := Nat.beq κ K || (Nat.beq K 113 && bIsC κ)
def bGam (K : Nat) : Option bCt := match aNth bGl (K / 16) with
  | some r => (match aNth r (K % 16) with
    | some o => o
    | none => none)
  | none => none
def bKd (K : Nat) : Nat := bif Nat.beq K 113 then 102 else K
def bIn (h : sHp) (K p : Nat) : Prop := (∃ c, h[p]? = some c ∧ bKK (bKp p c) K = true) ∨ (K = 300 ∧ p = 1000000) ∨ (400 ≤ K ∧ p = 2000000 + (K - 400))
def bT (h : sHp) (t : bTy) (w : Value) : Prop := match t with
  | .inl (lo, hi) => ∃ x, w = .int x ∧ lo ≤ x.toInt ∧ x.toInt ≤ hi
  | .inr (0, _) => ∃ x, w = .long x
  | .inr (1, _) => w = .null
  | .inr (2, K) => ∃ p, w = .ref p ∧ bIn h K p
  | .inr (_, K) => w = .null ∨ ∃ p, w = .ref p ∧ bIn h K p
def bCm (h : sHp) (ct : bCt) (c : va_E) : Prop := match ct with
  | .inl (t, n, .inl (lo, hi), cs) => ∃ f, c = .inl (t, n, .inl f) ∧ (∀ i, i < n → lo ≤ (f i).toInt ∧ (f i).toInt ≤ hi) ∧ (∀ i z, cs[i]? = some z → (f i).toInt = z)
  | .inl (t, n, .inr (0, _), _) => ∃ f, c = .inl (t, n, .inr (.inl f))
  | .inl (t, n, .inr (k + 1, K), _) => ∃ f, c = .inl (t, n, .inr (.inr (.inr (.inr f)))) ∧ ∀ i, i < n → bT h (.inr (k + 1, K)) (va_rf (f i))
  | .inr (ci, tys) => ∃ fs : List Value, c = .inr (ci, fs) ∧ fs.length = tys.length ∧ ∀ (j : Nat) (ty : bTy), tys[j]? = some ty → ∃ v : Value, fs[j]? = some v ∧ bT h ty v
def bVi (o : Option Value) : Int := match o with
  | some (.int x) => x.toInt
  | _ => 0
/-- what else stays true: a kept image is good; the first heir's share, once there is one -/
def bGd (g : Nat → Int32) : Prop := (∀ i, i < 64 → 0 ≤ (g i).toInt ∧ (g i).toInt ≤ 5) ∧ (∀ i, i < 5 → 0 ≤ (g (128 + i)).toInt ∧ (g (128 + i)).toInt ≤ 9) ∧ (2 ≤ (g 168).toInt ∧ (g 168).toInt ≤ 8) ∧ (2 ≤ (g 169).toInt ∧ (g 169).toInt ≤ 8) ∧ (-1 ≤ (g 171).toInt ∧ (g 171).toInt ≤ 63) ∧ (-1 ≤ (g 172).toInt ∧ (g 172).toInt ≤ 63) ∧ (0 ≤ (g 174).toInt ∧ (g 174).toInt ≤ 5) ∧ (1 ≤ (g 174).toInt → 1 ≤ (g 128).toInt)
def bP (h : sHp) : Prop := ∃ (fs : List Value) (f g : Nat → Int32), h[60]? = some (.inr (12, fs)) ∧ h[64]? = some (.inl (0, 5, .inl f)) ∧ h[75]? = some (.inl (0, 180, .inl g)) ∧ (1 ≤ bVi fs[6]? → 1 ≤ (f 0).toInt) ∧ (bVi fs[37]? ≠ 0 → bGd g)
def bPk (k : Nat) : Bool := Nat.beq k 3846 || (Nat.beq k 3877 || (Nat.beq k 4096 || Nat.beq k 4800))
def bH (h : sHp) : Prop := 79 ≤ h.length ∧ (∀ p c, h[p]? = some c → ∃ ct, bGam (bKp p c) = some ct ∧ bCm h ct c) ∧ bP h
/-- what stays of a cell, but for the marked ones; a number falls only where that is marked too -/
def bCf (W K : Nat) (c c' : va_E) : Prop := match c, c' with
  | .inl (t, n, d), .inl (t', n', d') => t' = t ∧ n' = n ∧ (W.testBit (K * 64) = false → d' = d)
  | .inr (ci, fs), .inr (ci', fs') => ci' = ci ∧ fs'.length = fs.length ∧ (∀ (j : Nat), W.testBit (K * 64 + j) = false → fs'[j]? = fs[j]?) ∧ ∀ (j : Nat), W.testBit (K * 64 + j + 8192) = false → bVi fs[j]? ≤ bVi fs'[j]?
  | _, _ => False
def bFr (W g : Nat) (h h' : sHp) : Prop := h.length ≤ h'.length ∧ h'.length ≤ h.length + g ∧ ∀ p c, h[p]? = some c → ∃ c', h'[p]? = some c' ∧ bCf W (bKp p c) c c'
def bEx (h h' : sHp) : Prop := ∀ p c, h[p]? = some c → ∃ c', h'[p]? = some c' ∧ bKp p c' = bKp p c
theorem bCf_k {W K p : Nat} {c c' : va_E} (h : bCf W K c c') : bKp p c' = bKp p c := by
  unfold bCf at h
  split at h
  · unfold bKp; rfl
  · obtain ⟨rfl, -⟩ := h
    unfold bKp; rfl
  · exact h.elim
theorem bCf_refl (W K : Nat) (c : va_E) : bCf W K c c := by
  rcases c with ⟨t, n, d⟩ | ⟨ci, fs⟩
  · exact ⟨rfl, rfl, fun _ => rfl⟩
  · exact ⟨rfl, rfl, fun _ _ => rfl, fun _ _ => Int.le_refl _⟩
theorem bCf_trans {W K : Nat} {c c' c'' : va_E} (h : bCf W K c c') (h' : bCf W K c' c'') : bCf W K c c'' := by
  rcases c with ⟨t, n, d⟩ | ⟨ci, fs⟩ <;> rcases c' with ⟨t', n', d'⟩ | ⟨ci', fs'⟩ <;> rcases c'' with ⟨t'', n'', d''⟩ | ⟨ci'', fs''⟩ <;> first | exact h.elim | exact h'.elim | skip
  · exact ⟨h'.1.trans h.1, h'.2.1.trans h.2.1, fun q => (h'.2.2 q).trans (h.2.2 q)⟩
  · exact ⟨h'.1.trans h.1, h'.2.1.trans h.2.1, fun j q => (h'.2.2.1 j q).trans (h.2.2.1 j q), fun j q => Int.le_trans (h.2.2.2 j q) (h'.2.2.2 j q)⟩
def bSb (W W' : Nat) : Prop := ∀ i, W'.testBit i = false → W.testBit i = false
theorem bSb_of {W W' : Nat} (h : Nat.beq (W ||| W') W' = true) : bSb W W' := by
  intro i hi
  have e := Nat.eq_of_beq_eq_true h
  have h2 : (W ||| W').testBit i = W'.testBit i := by rw [e]
  rw [Nat.testBit_or, hi] at h2
  cases hw : W.testBit i with
  | false => rfl
  | true => rw [hw] at h2; cases h2
theorem bCf_mono {W W' K : Nat} {c c' : va_E} (hs : bSb W W') (h : bCf W K c c') : bCf W' K c c' := by
  rcases c with ⟨t, n, d⟩ | ⟨ci, fs⟩ <;> rcases c' with ⟨t', n', d'⟩ | ⟨ci', fs'⟩ <;> first | exact h.elim | skip
  · exact ⟨h.1, h.2.1, fun q => h.2.2 (hs _ q)⟩
  · exact ⟨h.1, h.2.1, fun j q => h.2.2.1 j (hs _ q), fun j q => h.2.2.2 j (hs _ q)⟩
theorem bFr_refl (W : Nat) (h : sHp) : bFr W 0 h h := ⟨Nat.le_refl _, Nat.le_refl _, fun _ c hc => ⟨c, hc, bCf_refl _ _ _⟩⟩
theorem bFr_trans {W g g' : Nat} {h h' h'' : sHp} (a : bFr W g h h') (b : bFr W g' h' h'') : bFr W (g + g') h h'' := by
  refine ⟨Nat.le_trans a.1 b.1, by have := a.2.1; have := b.2.1; omega, fun p c hc => ?_⟩
  obtain ⟨c', h1, h2⟩ := a.2.2 p c hc
  obtain ⟨c'', h3, h4⟩ := b.2.2 p c' h1
  rw [bCf_k h2] at h4
  exact ⟨c'', h3, bCf_trans h2 h4⟩
theorem bFr_mono {W W' g g' : Nat} {h h' : sHp} (hs : bSb W W') (hg : g ≤ g') (a : bFr W g h h') : bFr W' g' h h' := by
  refine ⟨a.1, by have := a.2.1; omega, fun p c hc => ?_⟩
  obtain ⟨c', h1, h2⟩ := a.2.2 p c hc
  exact ⟨c', h1, bCf_mono hs h2⟩
theorem bSb_refl (W : Nat) : bSb W W := fun _ h => h
theorem bEx_of {W g : Nat} {h h' : sHp} (a : bFr W g h h') : bEx h h' := fun p c hc => by
  obtain ⟨c', h1, h2⟩ := a.2.2 p c hc
  exact ⟨c', h1, bCf_k h2⟩
theorem bEx_refl (h : sHp) : bEx h h := fun _ c hc => ⟨c, hc, rfl⟩
theorem bEx_trans {h h' h'' : sHp} (a : bEx h h') (b : bEx h' h'') : bEx h h'' := fun p c hc => by
  obtain ⟨c', h1, h2⟩ := a p c hc
  obtain ⟨c'', h3, h4⟩ := b p c' h1
  exact ⟨c'', h3, h4.trans h2⟩
theorem bIn_mono {h h' : sHp} (a : bEx h h') {K p : Nat} (q : bIn h K p) : bIn h' K p := by
  rcases q with ⟨c, h1, h2⟩ | q
  · obtain ⟨c', h3, h4⟩ := a p c h1
    exact Or.inl ⟨c', h3, by rw [h4]; exact h2⟩
  · exact Or.inr q
theorem bT_mono {h h' : sHp} (a : bEx h h') {t : bTy} {w : Value} (q : bT h t w) : bT h' t w := by
  unfold bT at q ⊢
  split at q
  · exact q
  · exact q
  · exact q
  · obtain ⟨p, e, hp⟩ := q
    exact ⟨p, e, bIn_mono a hp⟩
  · rename_i k K n0 n1 n2
    have q' : w = .null ∨ ∃ p, w = .ref p ∧ bIn h' K p := q.imp id (fun ⟨p, e, hp⟩ => ⟨p, e, bIn_mono a hp⟩)
    match k, n0, n1, n2, q' with
    | 0, n0, _, _, _ => exact (n0 rfl).elim
    | 1, _, n1, _, _ => exact (n1 rfl).elim
    | 2, _, _, n2, _ => exact (n2 rfl).elim
    | k + 3, _, _, _, q' => exact q'
theorem bCm_mono {h h' : sHp} (a : bEx h h') {ct : bCt} {c : va_E} (q : bCm h ct c) : bCm h' ct c := by
  unfold bCm at q ⊢
  split at q
  · exact q
  · exact q
  · obtain ⟨f, e, hf⟩ := q
    exact ⟨f, e, fun i hi => bT_mono a (hf i hi)⟩
  · obtain ⟨fs, e, el, hf⟩ := q
    exact ⟨fs, e, el, fun j ty hj => by
      obtain ⟨v, h1, h2⟩ := hf j ty hj
      exact ⟨v, h1, bT_mono a h2⟩⟩
/-! cells by kind -/
theorem bGam_lt {K : Nat} {ct : bCt} (h : bGam K = some ct) : K < 128 := by
  unfold bGam at h
  cases hr : aNth bGl (K / 16) with
  | none => rw [hr] at h; cases h
  | some r =>
    rw [aNth_eq] at hr
    have := (List.getElem?_eq_some_iff.mp hr).1
    have e : bGl.length = 8 := rfl
    omega
theorem bIn_at {h : sHp} {K p : Nat} {ct : bCt} (q : bIn h K p) (hg : bGam (bKd K) = some ct) : ∃ c, h[p]? = some c ∧ bKK (bKp p c) K = true := by
  rcases q with q | ⟨rfl, -⟩ | ⟨h1, -⟩
  · exact q
  · exact absurd (bGam_lt hg) (by decide)
  · have h2 := bGam_lt hg
    unfold bKd at h2
    rw [aBq, decide_eq_false (show ¬ K = 113 by omega)] at h2
    dsimp only [cond] at h2
    omega
theorem bIsC_cases {κ : Nat} (h : bIsC κ = true) : κ = 100 ∨ κ = 101 ∨ κ = 102 ∨ κ = 104 ∨ κ = 105 ∨ κ = 109 ∨ κ = 110 := by
  unfold bIsC at h
  simp only [aBq, Bool.or_eq_true, decide_eq_true_eq] at h
  exact h
theorem bKK_cases {κ K : Nat} (h : bKK κ K = true) : κ = K ∨ (K = 113 ∧ bIsC κ = true) := by
  unfold bKK at h
  simp only [aBq, Bool.or_eq_true, Bool.and_eq_true, decide_eq_true_eq] at h
  exact h
theorem bKd_ne {K : Nat} (h : K ≠ 113) : bKd K = K := by
  unfold bKd
  rw [aBq, decide_eq_false h]; rfl
/-- an object's cell -/
theorem bIn_obj {h : sHp} {K p ci0 : Nat} {tys : List bTy} (hH : bH h) (q : bIn h K p) (hg : bGam (bKd K) = some (.inr (ci0, tys))) : ∃ (ci : Nat) (fs : List Value), h[p]? = some (.inr (ci, fs)) ∧ sGrp ci = sGrp ci0 ∧ (K ≠ 113 → ci = ci0) ∧ fs.length = tys.length ∧ (∀ (j : Nat) (ty : bTy), tys[j]? = some ty → ∃ v : Value, fs[j]? = some v ∧ bT h ty v) ∧ bGam (bKp p (.inr (ci, fs))) = some (.inr (ci, tys)) ∧ bKK (bKp p (.inr (ci, fs))) K = true := by
  obtain ⟨c, hc, hk⟩ := bIn_at q hg
  obtain ⟨ct, h1, h2⟩ := hH.2.1 p c hc
  rcases bKK_cases hk with e | ⟨rfl, e⟩
  · have hK : K ≠ 113 := by
      intro z
      subst z
      rw [e] at h1
      exact absurd h1 (by intro z; cases z)
    rw [bKd_ne hK] at hg
    rw [e, hg] at h1
    cases h1
    obtain ⟨fs, rfl, e1, e2⟩ := h2
    exact ⟨ci0, fs, hc, rfl, fun _ => rfl, e1, e2, by rw [e]; exact hg, hk⟩
  · have key : ∃ ci, bGam (bKp p c) = some (.inr (ci, tys)) ∧ sGrp ci = sGrp ci0 := by
      have hg2 : bGam 102 = some (.inr (ci0, tys)) := hg
      rcases bIsC_cases e with e | e | e | e | e | e | e <;> rw [e]
      · cases hg2; exact ⟨0, rfl, rfl⟩
      · cases hg2; exact ⟨1, rfl, rfl⟩
      · cases hg2; exact ⟨2, rfl, rfl⟩
      · cases hg2; exact ⟨4, rfl, rfl⟩
      · cases hg2; exact ⟨5, rfl, rfl⟩
      · cases hg2; exact ⟨9, rfl, rfl⟩
      · cases hg2; exact ⟨10, rfl, rfl⟩
    obtain ⟨ci, k1, k2⟩ := key
    have h1' := h1
    rw [k1] at h1
    cases h1
    obtain ⟨fs, rfl, e1, e2⟩ := h2
    exact ⟨ci, fs, hc, k2, fun z => absurd rfl z, e1, e2, h1', hk⟩
/-- an array's cell -/
theorem bIn_arr {h : sHp} {K p t n : Nat} {ty : bTy} {cs : List Int} (hH : bH h) (q : bIn h K p) (hg : bGam (bKd K) = some (.inl (t, n, ty, cs))) : ∃ c, h[p]? = some c ∧ bCm h (.inl (t, n, ty, cs)) c ∧ bKp p c = K ∧ bGam K = some (.inl (t, n, ty, cs)) := by
  obtain ⟨c, hc, hk⟩ := bIn_at q hg
  obtain ⟨ct, h1, h2⟩ := hH.2.1 p c hc
  have hK : K ≠ 113 := by
    intro z
    subst z
    exact absurd hg (by intro z; cases z)
  rcases bKK_cases hk with e | ⟨e, -⟩
  · rw [bKd_ne hK] at hg
    rw [e, hg] at h1
    cases h1
    exact ⟨c, hc, h2, e, hg⟩
  · exact absurd e hK
/-- the one place of its kind -/
theorem bKp_one {K p : Nat} {c : va_E} (hK : K < 79) (hl : aNth bKl K = some K) (h : bKp p c = K) : p = K := by
  have key : ∀ a, a < 79 → ∀ b, b < 79 → bKl[a]? = some b → bKl[b]? = some b → a = b := by decide +kernel
  rw [aNth_eq] at hl
  unfold bKp at h
  split at h
  · rename_i K' hp
    subst h
    have hp79 := (List.getElem?_eq_some_iff.mp hp).1
    have e : bKl.length = 79 := rfl
    exact key p (by omega) K' hK hp hl
  · split at h <;> omega
theorem bIn_one {h : sHp} {K p : Nat} (hK : K < 79) (hl : aNth bKl K = some K) (q : bIn h K p) : p = K ∧ ∃ c, h[p]? = some c ∧ bKp p c = K := by
  rcases q with ⟨c, h1, h2⟩ | ⟨rfl, -⟩ | ⟨h1, -⟩
  · rcases bKK_cases h2 with e | ⟨e, -⟩
    · exact ⟨bKp_one hK hl e, c, h1, e⟩
    · omega
  · omega
  · omega
/-! writes -/
theorem s_set_ne {h : sHp} {p k : Nat} {c : va_E} (e : p ≠ k) : (h.set p c)[k]? = h[k]? := List.getElem?_set_ne e
theorem s_set_eq {h : sHp} {p : Nat} {c c0 : va_E} (hc : h[p]? = some c0) : (h.set p c)[p]? = some c := List.getElem?_set_self (List.getElem?_eq_some_iff.mp hc).1
theorem bFr_set {W : Nat} {h : sHp} {p : Nat} {c c' : va_E} (hc : h[p]? = some c) (hf : bCf W (bKp p c) c c') : bFr W 0 h (h.set p c') := by
  refine ⟨by rw [List.length_set]; exact Nat.le_refl _, by rw [List.length_set]; exact Nat.le_refl _, fun k d hd => ?_⟩
  by_cases e : p = k
  · subst e
    rw [hc] at hd
    cases hd
    exact ⟨c', s_set_eq hc, hf⟩
  · exact ⟨d, by rw [s_set_ne e]; exact hd, bCf_refl _ _ _⟩
theorem bP_obj {h : sHp} {p ci j K : Nat} {fs : List Value} {x : Value} (hP : bP h) (hc : h[p]? = some (.inr (ci, fs))) (hk : bKp p (.inr (ci, fs)) = K) (hb : bPk (K * 64 + j) = false) : bP (h.set p (.inr (ci, fs.set j x))) := by
  obtain ⟨fs0, f, g, a1, a2, a3, a4, a5⟩ := hP
  by_cases e : p = 60
  · subst e
    have hK : K = 60 := by rw [← hk]; rfl
    subst hK
    rw [a1] at hc
    cases hc
    unfold bPk at hb
    rw [Bool.or_eq_false_iff, Bool.or_eq_false_iff, aBq, aBq, decide_eq_false_iff_not, decide_eq_false_iff_not] at hb
    refine ⟨_, f, g, s_set_eq a1, by rw [s_set_ne (by decide)]; exact a2, by rw [s_set_ne (by decide)]; exact a3, ?_, ?_⟩
    · rw [List.getElem?_set_ne (by omega)]; exact a4
    · rw [List.getElem?_set_ne (by omega)]; exact a5
  · have n64 : p ≠ 64 := fun z => by
      subst z
      rw [a2] at hc
      cases hc
    have n75 : p ≠ 75 := fun z => by
      subst z
      rw [a3] at hc
      cases hc
    exact ⟨fs0, f, g, by rw [s_set_ne e]; exact a1, by rw [s_set_ne n64]; exact a2, by rw [s_set_ne n75]; exact a3, a4, a5⟩
theorem bP_arr {h : sHp} {p : Nat} {c c' : Nat × Nat × ((Nat → Int32) ⊕ (Nat → Int64) ⊕ (Nat → UInt32) ⊕ (Nat → UInt64) ⊕ (Nat → Option Nat))} (hP : bP h) (hc : h[p]? = some (.inl c)) (n64 : p ≠ 64) (n75 : p ≠ 75) : bP (h.set p (.inl c')) := by
  obtain ⟨fs0, f, g, a1, a2, a3, a4, a5⟩ := hP
  have e : p ≠ 60 := fun z => by
    subst z
    rw [a1] at hc
    cases hc
  exact ⟨fs0, f, g, by rw [s_set_ne e]; exact a1, by rw [s_set_ne n64]; exact a2, by rw [s_set_ne n75]; exact a3, a4, a5⟩
theorem bP_tag {h : sHp} {p t n : Nat} {d : (Nat → Int32) ⊕ (Nat → Int64) ⊕ (Nat → UInt32) ⊕ (Nat → UInt64) ⊕ (Nat → Option Nat)} (hP : bP h) (hc : h[p]? = some (.inl (t, n, d))) (ht : t ≠ 0) : p ≠ 64 ∧ p ≠ 75 := by
  obtain ⟨fs0, f, g, a1, a2, a3, -⟩ := hP
  exact ⟨fun z => by subst z; rw [a2] at hc; cases hc; exact ht rfl, fun z => by subst z; rw [a3] at hc; cases hc; exact ht rfl⟩
theorem bP_ne {p K : Nat} {c : va_E} (hk : bKp p c = K) (hb : bPk (K * 64) = false) : p ≠ 64 ∧ p ≠ 75 := by
  unfold bPk at hb
  rw [Bool.or_eq_false_iff, Bool.or_eq_false_iff, Bool.or_eq_false_iff, aBq, aBq, aBq, aBq, decide_eq_false_iff_not, decide_eq_false_iff_not, decide_eq_false_iff_not, decide_eq_false_iff_not] at hb
  exact ⟨fun z => by
    subst z
    have e : K = 64 := by rw [← hk]; rfl
    omega, fun z => by
    subst z
    have e : K = 75 := by rw [← hk]; rfl
    omega⟩
theorem bH_set {W : Nat} {h : sHp} {p : Nat} {c c' : va_E} {ct : bCt} (hH : bH h) (hc : h[p]? = some c) (hf : bCf W (bKp p c) c c') (hg : bGam (bKp p c) = some ct) (hm : bCm h ct c') (hP : bP (h.set p c')) : bH (h.set p c') := by
  have hx : bEx h (h.set p c') := bEx_of (bFr_set hc hf)
  refine ⟨by rw [List.length_set]; exact hH.1, fun k d hd => ?_, hP⟩
  by_cases e : p = k
  · subst e
    rw [s_set_eq hc] at hd
    cases hd
    exact ⟨ct, by rw [bCf_k hf]; exact hg, bCm_mono hx hm⟩
  · rw [s_set_ne e] at hd
    obtain ⟨ct', h1, h2⟩ := hH.2.1 k d hd
    exact ⟨ct', h1, bCm_mono hx h2⟩
end
section
/-! ===== the second executor: states, numbers with bounds ===== -/
abbrev bS : Type := Nat × Nat × List (Nat × Int × Int) × List (Nat × Nat × Int) × List (Nat × Bool) × List (Nat × bV) × List (Nat × bN × bV)
def bmI (ι : List Value) (a : bN) (x : Int32) : Prop := match a with
  | .inl i => ι[i]? = some (.int x)
  | .inr c => x.toInt = c
def bmV (ι : List Value) (h : sHp) (v : bV) (w : Value) : Prop := match v with
  | .inl a => ∃ x, w = .int x ∧ bmI ι a x
  | .inr (0, _) => ∃ x, w = .long x
  | .inr (1, _) => w = .null
  | .inr (2, K) => ∃ p, w = .ref p ∧ bIn h K p
  | .inr (k + 3, K) => ι[k]? = some w ∧ (w = .null ∨ ∃ p, w = .ref p ∧ bIn h K p)
def bLe (ι ι' : List Value) : Prop := ∃ r, ι' = ι ++ r
theorem bLe_refl (ι : List Value) : bLe ι ι := ⟨[], (List.append_nil ι).symm⟩
theorem bLe_trans {ι ι' ι'' : List Value} (a : bLe ι ι') (b : bLe ι' ι'') : bLe ι ι'' := by
  obtain ⟨r, rfl⟩ := a
  obtain ⟨r', rfl⟩ := b
  exact ⟨r ++ r', List.append_assoc _ _ _⟩
theorem bLe_at {ι ι' : List Value} (a : bLe ι ι') {i : Nat} {w : Value} (h : ι[i]? = some w) : ι'[i]? = some w := by
  obtain ⟨r, rfl⟩ := a
  rw [List.getElem?_append_left (List.getElem?_eq_some_iff.mp h).1]
  exact h
theorem bmI_mono {ι ι' : List Value} (a : bLe ι ι') {v : bN} {x : Int32} (h : bmI ι v x) : bmI ι' v x := by
  cases v with
  | inl i => exact bLe_at a h
  | inr c => exact h
theorem bmV_mono {ι ι' : List Value} {h h' : sHp} (a : bLe ι ι') (b : bEx h h') {v : bV} {w : Value} (q : bmV ι h v w) : bmV ι' h' v w := by
  rcases v with v | ⟨t, K⟩
  · obtain ⟨x, e, hx⟩ := q
    exact ⟨x, e, bmI_mono a hx⟩
  · match t, q with
    | 0, q => exact q
    | 1, q => exact q
    | 2, q =>
      obtain ⟨p, e, hp⟩ := q
      exact ⟨p, e, bIn_mono b hp⟩
    | k + 3, q =>
      obtain ⟨q1, q2⟩ := q
      exact ⟨bLe_at a q1, q2.imp id (fun ⟨p, e, hp⟩ => ⟨p, e, bIn_mono b hp⟩)⟩
/-- what the marks say of a state -/
def bmG (ι : List Value) (G : List (Nat × Int × Int)) : Prop := ∀ e ∈ G, ∃ x, ι[e.1]? = some (.int x) ∧ e.2.1 ≤ x.toInt ∧ x.toInt ≤ e.2.2
def bmD (ι : List Value) (D : List (Nat × Nat × Int)) : Prop := ∀ e ∈ D, ∃ x y, ι[e.1]? = some (.int x) ∧ ι[e.2.1]? = some (.int y) ∧ x.toInt = y.toInt + e.2.2
def bmN0 (ι : List Value) (N : List (Nat × Bool)) : Prop := ∀ e ∈ N, ∃ w, ι[e.1]? = some w ∧ (e.2 = true → w ≠ .null) ∧ (e.2 = false → w = .null)
/-- the kinds with one place -/
def bOne (K : Nat) : Bool := Nat.blt K 79 && (match aNth bKl K with
  | some j => Nat.beq j K
  | none => false)
theorem bOne_k {K : Nat} (g : bOne K = true) (c : va_E) : K < 79 ∧ bKp K c = K := by
  unfold bOne at g
  obtain ⟨g1, g2⟩ := aBa g
  split at g2
  · rename_i j hj
    rw [aNth_eq] at hj
    have e := aBt g2
    subst e
    refine ⟨aBl g1, ?_⟩
    unfold bKp
    rw [hj]
  · cases g2
theorem bOne_p {K p : Nat} {c : va_E} (g : bOne K = true) (h : bKp p c = K) : p = K := by
  unfold bOne at g
  obtain ⟨g1, g2⟩ := aBa g
  split at g2
  · rename_i j hj
    have e := aBt g2
    subst e
    exact bKp_one (aBl g1) hj h
  · cases g2
def bmO1 (ι : List Value) (h : sHp) (e : Nat × bV) : Prop := bOne (e.1 / 64) = true ∧ ∃ ci fs w, h[e.1 / 64]? = some (.inr (ci, fs)) ∧ fs[e.1 % 64]? = some w ∧ bmV ι h e.2 w
def bmO (ι : List Value) (h : sHp) (O : List (Nat × bV)) : Prop := ∀ e ∈ O, bmO1 ι h e
def bmA1 (ι : List Value) (h : sHp) (e : Nat × bN × bV) : Prop := bOne e.1 = true ∧ ∃ t n f j, h[e.1]? = some (.inl (t, n, .inr (.inr (.inr (.inr f))))) ∧ bmI ι e.2.1 j ∧ bmV ι h e.2.2 (va_rf (f j.toNatClampNeg))
def bmA (ι : List Value) (h : sHp) (A : List (Nat × bN × bV)) : Prop := ∀ e ∈ A, bmA1 ι h e
def bmS (ι : List Value) (h : sHp) (S : bS) : Prop := ι.length = S.1 ∧ bmG ι S.2.2.1 ∧ bmD ι S.2.2.2.1 ∧ bmN0 ι S.2.2.2.2.1 ∧ bmO ι h S.2.2.2.2.2.1 ∧ bmA ι h S.2.2.2.2.2.2
theorem bmG_mono {ι ι' : List Value} (a : bLe ι ι') {G : List (Nat × Int × Int)} (q : bmG ι G) : bmG ι' G := fun e he => by
  obtain ⟨x, h1, h2⟩ := q e he
  exact ⟨x, bLe_at a h1, h2⟩
theorem bmD_mono {ι ι' : List Value} (a : bLe ι ι') {D : List (Nat × Nat × Int)} (q : bmD ι D) : bmD ι' D := fun e he => by
  obtain ⟨x, y, h1, h2, h3⟩ := q e he
  exact ⟨x, y, bLe_at a h1, bLe_at a h2, h3⟩
theorem bmN0_mono {ι ι' : List Value} (a : bLe ι ι') {N : List (Nat × Bool)} (q : bmN0 ι N) : bmN0 ι' N := fun e he => by
  obtain ⟨x, h1, h2⟩ := q e he
  exact ⟨x, bLe_at a h1, h2⟩
theorem bmO_mono {ι ι' : List Value} (a : bLe ι ι') {h : sHp} {O : List (Nat × bV)} (q : bmO ι h O) : bmO ι' h O := fun e he => by
  obtain ⟨h0, ci, fs, w, h1, h2, h3⟩ := q e he
  exact ⟨h0, ci, fs, w, h1, h2, bmV_mono a (bEx_refl h) h3⟩
theorem bmA_mono {ι ι' : List Value} (a : bLe ι ι') {h : sHp} {A : List (Nat × bN × bV)} (q : bmA ι h A) : bmA ι' h A := fun e he => by
  obtain ⟨h0, t, n, f, j, h1, h2, h3⟩ := q e he
  exact ⟨h0, t, n, f, j, h1, bmI_mono a h2, bmV_mono a (bEx_refl h) h3⟩
/-- one more value -/
theorem bmS_new {ι : List Value} {h : sHp} {S : bS} (q : bmS ι h S) (w : Value) : (ι ++ [w])[S.1]? = some w ∧ bLe ι (ι ++ [w]) ∧ bmS (ι ++ [w]) h (S.1 + 1, S.2) := by
  obtain ⟨h1, h2, h3, h4, h5, h6⟩ := q
  have a : bLe ι (ι ++ [w]) := ⟨[w], rfl⟩
  refine ⟨by rw [← h1]; simp, a, by rw [List.length_append, h1]; rfl, bmG_mono a h2, bmD_mono a h3, bmN0_mono a h4, bmO_mono a h5, bmA_mono a h6⟩
/-! bounds -/
def bG : List (Nat × Int × Int) → Nat → Int × Int
  | [], _ => aFull
  | e :: r, i => bif Nat.beq e.1 i then e.2 else bG r i
theorem bG_ok {ι : List Value} {i : Nat} {x : Int32} (hx : ι[i]? = some (.int x)) : ∀ {G : List (Nat × Int × Int)}, bmG ι G → aW x.toInt (bG G i) := by
  intro G
  induction G with
  | nil => intro _; exact aFull_ok x
  | cons e r ih =>
    intro hG
    unfold bG
    rw [aBq]
    by_cases he : e.1 = i
    · rw [decide_eq_true he]
      obtain ⟨y, h1, h2⟩ := hG e List.mem_cons_self
      rw [he, hx] at h1
      cases h1
      exact h2
    · rw [decide_eq_false he]
      exact ih (fun e he => hG e (List.mem_cons_of_mem _ he))
def bI (S : bS) (a : bN) : Int × Int := match a with
  | .inl i => bG S.2.2.1 i
  | .inr c => (c, c)
theorem bI_ok {ι : List Value} {h : sHp} {S : bS} (q : bmS ι h S) {a : bN} {x : Int32} (hx : bmI ι a x) : aW x.toInt (bI S a) := by
  cases a with
  | inl i => exact bG_ok hx q.2.1
  | inr c =>
    have e : x.toInt = c := hx
    show c ≤ x.toInt ∧ x.toInt ≤ c
    omega
/-- a new number with bounds -/
def bNew (lo hi : Int) (S : bS) (f : bS → bN → Bool) : Bool := aFc lo fun lo => aFc hi fun hi => bif decide (lo = hi) then f S (.inr lo) else (match S with
  | (n, g, G, r) => aF n fun n => aF (n + 1) fun n1 => f (n1, g, (n, lo, hi) :: G, r) (.inl n))
theorem bNew_ok {ι : List Value} {h : sHp} {S : bS} {lo hi : Int} {f : bS → bN → Bool} (g : bNew lo hi S f = true) (q : bmS ι h S) {x : Int32} (hx : aW x.toInt (lo, hi)) : ∃ ι' S' a, f S' a = true ∧ bLe ι ι' ∧ bmS ι' h S' ∧ bmI ι' a x ∧ S'.2.1 = S.2.1 := by
  unfold bNew at g
  rw [aFc_eq, aFc_eq] at g
  unfold aW at hx
  dsimp only at hx
  cases hd : decide (lo = hi) with
  | true =>
    rw [hd] at g
    have := of_decide_eq_true hd
    exact ⟨ι, S, .inr lo, g, bLe_refl ι, q, by show x.toInt = lo; omega, rfl⟩
  | false =>
    rw [hd] at g
    obtain ⟨n, g0, G, r⟩ := S
    dsimp only [cond] at g
    rw [aF_eq, aF_eq] at g
    obtain ⟨h1, h2, h3⟩ := bmS_new q (.int x)
    refine ⟨ι ++ [Value.int x], _, .inl n, g, h2, ⟨h3.1, ?_, h3.2.2⟩, (show (ι ++ [Value.int x])[n]? = some (Value.int x) from h1), rfl⟩
    intro e he
    rcases List.mem_cons.mp he with rfl | he
    · exact ⟨x, h1, hx⟩
    · exact h3.2.1 e he
/-- a number has narrower bounds -/
def bRf (S : bS) (a : bN) (lo hi : Int) (f : bS → Bool) : Bool := match bI S a with
  | (x, y) => aFc (max x lo) fun u => aFc (min y hi) fun v => bif decide (v < u) then true else (match a with
    | .inr _ => f S
    | .inl i => bif decide (u = x) && decide (v = y) then f S else (match S with
    | (n, g, G, r) => f (n, g, (i, u, v) :: G, r)))
theorem bRf_ok {ι : List Value} {h : sHp} {S : bS} {a : bN} {lo hi : Int} {f : bS → Bool} (g : bRf S a lo hi f = true) (q : bmS ι h S) {x : Int32} (hx : bmI ι a x) (h1 : lo ≤ x.toInt) (h2 : x.toInt ≤ hi) : ∃ S', f S' = true ∧ bmS ι h S' ∧ S'.2.1 = S.2.1 := by
  have h0 := bI_ok q hx
  unfold bRf at g
  unfold aW at h0
  generalize bI S a = p at g h0
  obtain ⟨lo0, hi0⟩ := p
  dsimp only at g h0
  rw [aFc_eq, aFc_eq] at g
  have e : decide (min hi0 hi < max lo0 lo) = false := decide_eq_false (by omega)
  rw [e] at g
  dsimp only [cond] at g
  cases a with
  | inr c => exact ⟨S, g, q, rfl⟩
  | inl i =>
    dsimp only at g
    cases hd : (decide (max lo0 lo = lo0) && decide (min hi0 hi = hi0)) with
    | true => rw [hd] at g; exact ⟨S, g, q, rfl⟩
    | false =>
      rw [hd] at g
      obtain ⟨n, g0, G, r⟩ := S
      refine ⟨_, g, ⟨q.1, ?_, q.2.2⟩, rfl⟩
      intro e he
      rcases List.mem_cons.mp he with rfl | he
      · exact ⟨x, hx, by dsimp only; omega, by dsimp only; omega⟩
      · exact q.2.1 e he
/-! comparisons -/
def bSm (a b : bN) : Bool := match a with
  | .inl i => (match b with
    | .inl j => Nat.beq i j
    | _ => false)
  | _ => false
theorem bSm_ok {ι : List Value} {a b : bN} {x y : Int32} (h : bSm a b = true) (ha : bmI ι a x) (hb : bmI ι b y) : x = y := by
  cases a with
  | inr c => cases h
  | inl i =>
    cases b with
    | inr c => cases h
    | inl j =>
      have e : i = j := aBt h
      subst e
      have h1 : ι[i]? = some (Value.int x) := ha
      have h2 : ι[i]? = some (Value.int y) := hb
      rw [h1] at h2
      cases h2
      rfl
def bNe (sp : Bool) (S : bS) (a : bN) (p q : Int × Int) (f : bS → Bool) : Bool := bif decide (q.1 = q.2) then (bif decide (p.1 = q.1) then bRf S a (p.1 + 1) p.2 f else (bif decide (p.2 = q.1) then bRf S a p.1 (p.2 - 1) f else (bif sp then bRf S a p.1 (q.1 - 1) f && bRf S a (q.1 + 1) p.2 f else f S))) else f S
theorem bNe_ok {ι : List Value} {h : sHp} {sp : Bool} {S : bS} {a : bN} {p q : Int × Int} {f : bS → Bool} (g : bNe sp S a p q f = true) (hS : bmS ι h S) {x y : Int32} (hx : bmI ι a x) (hp : aW x.toInt p) (hq : aW y.toInt q) (hne : x.toInt ≠ y.toInt) : ∃ S', f S' = true ∧ bmS ι h S' ∧ S'.2.1 = S.2.1 := by
  unfold bNe at g
  unfold aW at hp hq
  cases h1 : decide (q.1 = q.2) with
  | false => rw [h1] at g; exact ⟨S, g, hS, rfl⟩
  | true =>
    rw [h1] at g
    have h1 := of_decide_eq_true h1
    dsimp only [cond] at g
    cases h2 : decide (p.1 = q.1) with
    | true =>
      rw [h2] at g
      have h2 := of_decide_eq_true h2
      exact bRf_ok g hS hx (by omega) (by omega)
    | false =>
      rw [h2] at g
      dsimp only [cond] at g
      cases h3 : decide (p.2 = q.1) with
      | true =>
        rw [h3] at g
        have h3 := of_decide_eq_true h3
        exact bRf_ok g hS hx (by omega) (by omega)
      | false =>
        rw [h3] at g
        dsimp only [cond] at g
        cases sp with
        | false => exact ⟨S, g, hS, rfl⟩
        | true =>
          obtain ⟨g1, g2⟩ := aBa g
          by_cases h4 : x.toInt < y.toInt
          · exact bRf_ok g1 hS hx (by omega) (by omega)
          · exact bRf_ok g2 hS hx (by omega) (by omega)
def bCnd (sp : Bool) (c : Jvm.ClassFile.Cond) (S : bS) (a b : bN) (f : bS → Bool) : Bool := match c with
  | .lt => bRf S a (bI S a).1 ((bI S b).2 - 1) fun S1 => bRf S1 b ((bI S a).1 + 1) (bI S b).2 f
  | .gt => bRf S b (bI S b).1 ((bI S a).2 - 1) fun S1 => bRf S1 a ((bI S b).1 + 1) (bI S a).2 f
  | .le => bRf S a (bI S a).1 (bI S b).2 fun S1 => bRf S1 b (bI S a).1 (bI S b).2 f
  | .ge => bRf S b (bI S b).1 (bI S a).2 fun S1 => bRf S1 a (bI S b).1 (bI S a).2 f
  | .eq => bRf S a (bI S b).1 (bI S b).2 fun S1 => bRf S1 b (bI S a).1 (bI S a).2 f
  | .ne => bif bSm a b then true else (bif decide ((bI S b).1 = (bI S b).2) then bNe sp S a (bI S a) (bI S b) f else bNe sp S b (bI S b) (bI S a) f)
theorem bCnd_ok {ι : List Value} {h : sHp} {sp : Bool} {c : Jvm.ClassFile.Cond} {S : bS} {a b : bN} {f : bS → Bool} (g : bCnd sp c S a b f = true) (q : bmS ι h S) {x y : Int32} (hx : bmI ι a x) (hy : bmI ι b y) (hc : sC2 c x y = true) : ∃ S', f S' = true ∧ bmS ι h S' ∧ S'.2.1 = S.2.1 := by
  have h1 := bI_ok q hx
  have h2 := bI_ok q hy
  unfold aW at h1 h2
  unfold bCnd at g
  have two : ∀ {u v : bN} {z w : Int32} {l1 u1 l2 u2 : Int}, bmI ι u z → bmI ι v w → l1 ≤ z.toInt → z.toInt ≤ u1 → l2 ≤ w.toInt → w.toInt ≤ u2 → (bRf S u l1 u1 fun S1 => bRf S1 v l2 u2 f) = true → ∃ S', f S' = true ∧ bmS ι h S' ∧ S'.2.1 = S.2.1 := by
    intro u v z w l1 u1 l2 u2 hz hw a1 a2 a3 a4 gg
    obtain ⟨S1, g1, q1, e1⟩ := bRf_ok gg q hz a1 a2
    obtain ⟨S2, g2, q2, e2⟩ := bRf_ok g1 q1 hw a3 a4
    exact ⟨S2, g2, q2, e2.trans e1⟩
  cases c with
  | lt =>
    have hc := Int32.lt_iff_toInt_lt.mp (of_decide_eq_true hc)
    exact two hx hy (by omega) (by omega) (by omega) (by omega) g
  | gt =>
    have hc := Int32.lt_iff_toInt_lt.mp (of_decide_eq_true hc)
    exact two hy hx (by omega) (by omega) (by omega) (by omega) g
  | le =>
    have hc := Int32.le_iff_toInt_le.mp (of_decide_eq_true hc)
    exact two hx hy (by omega) (by omega) (by omega) (by omega) g
  | ge =>
    have hc := Int32.le_iff_toInt_le.mp (of_decide_eq_true hc)
    exact two hy hx (by omega) (by omega) (by omega) (by omega) g
  | eq =>
    have hc : x = y := of_decide_eq_true hc
    subst hc
    exact two hx hy (by omega) (by omega) (by omega) (by omega) g
  | ne =>
    have hc : ¬ x = y := by
      intro z
      unfold sC2 at hc
      simp [z] at hc
    have hne : x.toInt ≠ y.toInt := fun z => hc (Int32.toInt_inj.mp z)
    dsimp only at g
    cases hs : bSm a b with
    | true => exact absurd (bSm_ok hs hx hy) hc
    | false =>
      rw [hs] at g
      dsimp only [cond] at g
      split at g
      · exact bNe_ok g q hx h1 h2 hne
      · exact bNe_ok g q hy h2 h1 (fun z => hne z.symm)
def bNg (c : Jvm.ClassFile.Cond) : Jvm.ClassFile.Cond := match c with
  | .eq => .ne
  | .ne => .eq
  | .lt => .ge
  | .ge => .lt
  | .gt => .le
  | .le => .gt
theorem bNg_cr (c : Jvm.ClassFile.Cond) (o : Nat) : aCr (bNg c) o = !(aCr c o) := by
  cases c <;> simp [bNg, aCr]
theorem bNg_ok {c : Jvm.ClassFile.Cond} {x y : Int32} (h : sC2 c x y = false) : sC2 (bNg c) x y = true := by
  by_cases h1 : x.toInt < y.toInt
  · rw [aCr_lt c h1] at h
    rw [aCr_lt _ h1, bNg_cr, h]; rfl
  · by_cases h2 : y.toInt < x.toInt
    · rw [aCr_gt c h2] at h
      rw [aCr_gt _ h2, bNg_cr, h]; rfl
    · have h3 : x.toInt = y.toInt := by omega
      rw [aCr_eq c h3] at h
      rw [aCr_eq _ h3, bNg_cr, h]; rfl
/-! kinds of values -/
def bNn : List (Nat × Bool) → Nat → Option Bool
  | [], _ => none
  | e :: r, i => bif Nat.beq e.1 i then some e.2 else bNn r i
theorem bNn_ok {ι : List Value} {i : Nat} {w : Value} (hw : ι[i]? = some w) : ∀ {N : List (Nat × Bool)} {b : Bool}, bmN0 ι N → bNn N i = some b → (b = true → w ≠ .null) ∧ (b = false → w = .null) := by
  intro N
  induction N with
  | nil => intro b _ h; cases h
  | cons e r ih =>
    intro b hN h
    unfold bNn at h
    rw [aBq] at h
    by_cases he : e.1 = i
    · rw [decide_eq_true he] at h
      cases h
      obtain ⟨y, h1, h2⟩ := hN e List.mem_cons_self
      rw [he, hw] at h1
      cases h1
      exact h2
    · rw [decide_eq_false he] at h
      exact ih (fun e he => hN e (List.mem_cons_of_mem _ he)) h
/-- surely a place of this kind -/
def bRef (S : bS) (v : bV) : Option Nat := match v with
  | .inr (t, K) => (match t with
    | 0 => none
    | 1 => none
    | 2 => some K
    | k + 3 => (match bNn S.2.2.2.2.1 k with
      | some true => some K
      | _ => none))
  | _ => none
theorem bRef_ok {ι : List Value} {h : sHp} {S : bS} {v : bV} {w : Value} {K : Nat} (g : bRef S v = some K) (q : bmS ι h S) (hv : bmV ι h v w) : ∃ p, w = .ref p ∧ bIn h K p := by
  rcases v with v | ⟨t, K'⟩
  · cases g
  · match t, g, hv with
    | 0, g, _ => cases g
    | 1, g, _ => cases g
    | 2, g, hv => cases g; exact hv
    | k + 3, g, hv =>
      obtain ⟨h1, h2⟩ := hv
      have g' : (match bNn S.2.2.2.2.1 k with
        | some true => some K'
        | _ => none) = some K := g
      split at g'
      · rename_i hn
        cases g'
        have h3 := (bNn_ok h1 q.2.2.2.1 hn).1 rfl
        exact h2.resolve_left h3
      · cases g'
/-- surely null -/
def bNul (S : bS) (v : bV) : Bool := match v with
  | .inr (t, _) => (match t with
    | 0 => false
    | 1 => true
    | 2 => false
    | k + 3 => (match bNn S.2.2.2.2.1 k with
      | some false => true
      | _ => false))
  | _ => false
theorem bNul_ok {ι : List Value} {h : sHp} {S : bS} {v : bV} {w : Value} (g : bNul S v = true) (q : bmS ι h S) (hv : bmV ι h v w) : w = .null := by
  rcases v with v | ⟨t, K'⟩
  · cases g
  · match t, g, hv with
    | 0, g, _ => cases g
    | 1, g, hv => exact hv
    | 2, g, _ => cases g
    | k + 3, g, hv =>
      obtain ⟨h1, h2⟩ := hv
      have g' : (match bNn S.2.2.2.2.1 k with
        | some false => true
        | _ => false) = true := g
      split at g'
      · rename_i hn
        exact (bNn_ok h1 q.2.2.2.1 hn).2 rfl
      · cases g'
def bKs (K' K : Nat) : Bool := Nat.beq K' K || (Nat.beq K 113 && bIsC K')
theorem bKs_ok {h : sHp} {K' K p : Nat} (g : bKs K' K = true) (q : bIn h K' p) : bIn h K p := by
  rcases bKK_cases (κ := K') (K := K) g with rfl | ⟨rfl, e⟩
  · exact q
  · have e' := bIsC_cases e
    rcases q with ⟨c, h1, h2⟩ | ⟨rfl, -⟩ | ⟨h1, -⟩
    · rcases bKK_cases h2 with e2 | ⟨e2, -⟩
      · refine Or.inl ⟨c, h1, ?_⟩
        unfold bKK
        rw [e2, e]
        simp [aBq]
      · omega
    · omega
    · omega
def bRfT (S : bS) (v : bV) (K : Nat) : Bool := match bRef S v with
  | some K' => bKs K' K
  | none => false
theorem bRfT_ok {ι : List Value} {h : sHp} {S : bS} {v : bV} {w : Value} {K : Nat} (g : bRfT S v K = true) (q : bmS ι h S) (hv : bmV ι h v w) : ∃ p, w = .ref p ∧ bIn h K p := by
  unfold bRfT at g
  split at g
  · rename_i K' hr
    obtain ⟨p, e, hp⟩ := bRef_ok hr q hv
    exact ⟨p, e, bKs_ok g hp⟩
  · cases g
def bQk (v : bV) (K : Nat) : Bool := match v with
  | .inr (u, K') => Nat.blt 2 u && bKs K' K
  | _ => false
/-- a value fits a type -/
def bFit (S : bS) (v : bV) (t : bTy) : Bool := match t with
  | .inl (lo, hi) => (match v with
    | .inl a => decide (lo ≤ (bI S a).1) && decide ((bI S a).2 ≤ hi)
    | _ => false)
  | .inr (t, K) => (match t with
    | 0 => (match v with
      | .inr (u, _) => Nat.beq u 0
      | _ => false)
    | 1 => bNul S v
    | 2 => bRfT S v K
    | _ + 3 => bNul S v || (bRfT S v K || bQk v K))
theorem bFit_ok {ι : List Value} {h : sHp} {S : bS} {v : bV} {t : bTy} {w : Value} (g : bFit S v t = true) (q : bmS ι h S) (hv : bmV ι h v w) : bT h t w := by
  rcases t with ⟨lo, hi⟩ | ⟨t, K⟩
  · rcases v with a | v
    · obtain ⟨x, rfl, hx⟩ := hv
      obtain ⟨g1, g2⟩ := aBa g
      have g1 := of_decide_eq_true g1
      have g2 := of_decide_eq_true g2
      have h0 := bI_ok q hx
      unfold aW at h0
      exact ⟨x, rfl, by omega, by omega⟩
    · cases g
  · match t, g with
    | 0, g =>
      rcases v with a | ⟨u, K'⟩
      · cases g
      · have e : u = 0 := aBt g
        subst e
        exact hv
    | 1, g => exact bNul_ok g q hv
    | 2, g => exact bRfT_ok g q hv
    | k + 3, g =>
      show w = .null ∨ _
      have g' : (bNul S v || (bRfT S v K || bQk v K)) = true := g
      rw [Bool.or_eq_true, Bool.or_eq_true] at g'
      rcases g' with g' | g' | g'
      · exact Or.inl (bNul_ok g' q hv)
      · exact Or.inr (bRfT_ok g' q hv)
      · rcases v with a | ⟨u, K'⟩
        · cases g'
        · obtain ⟨g1, g2⟩ := aBa g'
          have g1 := aBl g1
          obtain ⟨j, rfl⟩ : ∃ j, u = j + 3 := ⟨u - 3, by omega⟩
          obtain ⟨-, h2⟩ := hv
          exact h2.imp id (fun ⟨p, e, hp⟩ => ⟨p, e, bKs_ok g2 hp⟩)
/-- some value of a type -/
def bMk (t : bTy) (S : bS) (f : bS → bV → Bool) : Bool := match t with
  | .inl (lo, hi) => bNew lo hi S (fun S a => f S (.inl a))
  | .inr (t, K) => (match t with
    | 0 => f S (.inr (0, 0))
    | 1 => f S (.inr (1, 0))
    | 2 => f S (.inr (2, K))
    | _ + 3 => (match S with
      | (n, r) => aF n fun n => aF (n + 1) fun n1 => aF (n + 3) fun n3 => f (n1, r) (.inr (n3, K))))
theorem bMk_ok {ι : List Value} {h : sHp} {S : bS} {t : bTy} {f : bS → bV → Bool} (g : bMk t S f = true) (q : bmS ι h S) {w : Value} (hw : bT h t w) : ∃ ι' S' v, f S' v = true ∧ bLe ι ι' ∧ bmS ι' h S' ∧ bmV ι' h v w ∧ S'.2.1 = S.2.1 := by
  rcases t with ⟨lo, hi⟩ | ⟨t, K⟩
  · obtain ⟨x, rfl, hx⟩ := hw
    have g' : bNew lo hi S (fun S a => f S (.inl a)) = true := g
    obtain ⟨ι', S', a, g1, g2, g3, g4, g5⟩ := bNew_ok g' q (x := x) hx
    exact ⟨ι', S', .inl a, g1, g2, g3, ⟨x, rfl, g4⟩, g5⟩
  · match t, g, hw with
    | 0, g, hw => exact ⟨ι, S, _, g, bLe_refl ι, q, hw, rfl⟩
    | 1, g, hw => exact ⟨ι, S, _, g, bLe_refl ι, q, hw, rfl⟩
    | 2, g, hw => exact ⟨ι, S, _, g, bLe_refl ι, q, hw, rfl⟩
    | k + 3, g, hw =>
      obtain ⟨n, r⟩ := S
      have g' : (aF n fun n => aF (n + 1) fun n1 => aF (n + 3) fun n3 => f (n1, r) (.inr (n3, K))) = true := g
      rw [aF_eq, aF_eq, aF_eq] at g'
      obtain ⟨h1, h2, h3⟩ := bmS_new q w
      exact ⟨_, _, _, g', h2, h3, ⟨h1, hw⟩, rfl⟩
end
