/-! ===== envies, evens, heirOf ===== -/
def enV (m : MF) (n i : Nat) (S : Nat → Int64) : Nat → Int32
  | 0 => Int32.ofInt 0
  | k + 1 => if wV m n i (S i) < wV m n i (S k) then enV m n i S k ||| (Int32.ofInt 1 <<< (Int32.ofNat k &&& 31)) else enV m n i S k
theorem enV_y {m : MF} {n i k : Nat} {S : Nat → Int64} (h : wV m n i (S i) < wV m n i (S k)) : enV m n i S (k + 1) = enV m n i S k ||| (Int32.ofInt 1 <<< (Int32.ofNat k &&& 31)) := if_pos h
theorem enV_n {m : MF} {n i k : Nat} {S : Nat → Int64} (h : ¬ wV m n i (S i) < wV m n i (S k)) : enV m n i S (k + 1) = enV m n i S k := if_neg h
theorem s_env11_go {d : Nat} {h : sHp} {ik tf : Int32} {c : CF} {m : MF} {s : Sg} {i : Nat} (hd : 4 ≤ d) (h0 : h[0]? = some (cO ik tf)) (F : FC h 5 c) (g : gdF c s.1 s.2.1) (r : RB c m) (sI : sgI c s) (hi : i < s.2.2) : ∀ (f k : Nat), k + f = s.2.2 → sGo none 144 d 40 [some (.ref 0), some (.int (Int32.ofNat i)), some (.int (Int32.ofNat (wV m (s.1 * s.2.1) i (c.2.2.2.2.2.2 i)))), some (.int (enV m (s.1 * s.2.1) i c.2.2.2.2.2.2 k)), some (.int (Int32.ofNat k))] [] h (fun r h' => r = some (.int (enV m (s.1 * s.2.1) i c.2.2.2.2.2.2 s.2.2)) ∧ h' = h) := by
  have n5 := sI.2.2.2.2.2.2.2
  have ei := ofN_toInt (n := i) (by omega)
  have RS := (r.2 s sI).1
  have hn := gdF_n g
  have e11 : (c.1 11).toInt = ((s.2.2 : Nat) : Int) := by rw [sI.2.2.1]; exact ofN_toInt (by omega)
  have a1 := wV_le (x := c.2.2.2.2.2.2 i) hn.1 RS hi
  have ew1 := ofC_toInt (n := wV m (s.1 * s.2.1) i (c.2.2.2.2.2.2 i)) (by omega)
  intro f
  induction f with
  | zero =>
    intro k hk
    have ek := ofN_toInt (n := k) (by omega)
    have eN : s.2.2 = k := by omega
    refine g_iload (i := 4) rfl rfl ?_
    refine g_aload_n (i := 0) rfl rfl ?_
    refine g_getfield (v := .ref 5) rfl h0 (by decide) rfl ?_
    refine g_getfield (v := .int (c.1 11)) rfl F.1 (by decide) rfl ?_
    refine g_icmp_ge 93 rfl rfl (fun _ => ?_) (fun hc => absurd hc (by rw [i_le, e11, ek]; omega))
    refine g_iload_n (i := 3) rfl rfl ?_
    refine g_ireturn (ty := .int) rfl rfl rfl ?_
    exact ⟨by rw [eN], rfl⟩
  | succ f ih =>
    intro k hk
    have ek := ofN_toInt (n := k) (by omega)
    have a2 := wV_le (x := c.2.2.2.2.2.2 k) hn.1 RS hi
    have ew2 := ofC_toInt (n := wV m (s.1 * s.2.1) i (c.2.2.2.2.2.2 k)) (by omega)
    refine g_iload (i := 4) rfl rfl ?_
    refine g_aload_n (i := 0) rfl rfl ?_
    refine g_getfield (v := .ref 5) rfl h0 (by decide) rfl ?_
    refine g_getfield (v := .int (c.1 11)) rfl F.1 (by decide) rfl ?_
    refine g_icmp_ge 93 rfl rfl (fun hc => absurd hc (by rw [i_le, e11, ek]; omega)) (fun _ => ?_)
    refine g_iload (i := 4) rfl rfl ?_
    refine g_iconst (n := 5) rfl ?_
    refine g_icmp_ge 93 rfl rfl (fun hc => absurd hc (by rw [i_le, ek, show (Int32.ofInt 5).toInt = 5 from rfl]; omega)) (fun _ => ?_)
    refine g_aload_n (i := 0) rfl rfl ?_
    refine g_getfield (v := .ref 5) rfl h0 (by decide) rfl ?_
    refine g_iload_n (i := 1) rfl rfl ?_
    refine g_aload_n (i := 0) rfl rfl ?_
    refine g_getfield (v := .ref 5) rfl h0 (by decide) rfl ?_
    refine g_getfield (v := .ref (5 + 10)) rfl F.1 (by decide) rfl ?_
    refine g_iload (i := 4) rfl rfl ?_
    refine g_laload (n := 7) (f := c.2.2.2.2.2.2) rfl F.2.2.2.2.2.2 (i_in (by omega) (by omega)) ?_
    rw [i_nat ek]
    refine g_virt2 (Qc := fun r h' => h' = h ∧ r = some (.int (Int32.ofNat (wV m (s.1 * s.2.1) i (c.2.2.2.2.2.2 k))))) rfl (by decide) rfl F.1 rfl (Nat.le_of_ble_eq_true rfl) (s_worthOf11 (by omega) F g r sI hi) (fun r h hq9 => ?_)
    obtain ⟨rfl, rfl⟩ := hq9
    refine g_iload_n (i := 2) rfl rfl ?_
    refine g_icmp_le 87 rfl rfl (fun c_1 => ?_) (fun c_1 => ?_)
    · skip
      rw [i_le, ew2, ew1] at c_1
      refine g_iinc (i := 4) (L1 := [some (.ref 0), some (.int (Int32.ofNat i)), some (.int (Int32.ofNat (wV m (s.1 * s.2.1) i (c.2.2.2.2.2.2 i)))), some (.int (enV m (s.1 * s.2.1) i c.2.2.2.2.2.2 k)), some (.int ((Int32.ofNat k) + Int32.ofInt 1))]) rfl rfl rfl ?_
      rw [ofN_add (by omega)]
      refine g_goto 40 rfl rfl ?_
      rw [← enV_n (m := m) (n := (s.1 * s.2.1)) (i := i) (k := k) (S := c.2.2.2.2.2.2) (by omega)]
      exact ih (k + 1) (by omega)
    · skip
      rw [i_le, ew2, ew1] at c_1
      refine g_iload_n (i := 3) rfl rfl ?_
      refine g_iconst (n := 1) rfl ?_
      refine g_iload (i := 4) rfl rfl ?_
      refine g_ishl rfl ?_
      refine g_ior rfl ?_
      refine g_istore_n (i := 3) (L1 := [some (.ref 0), some (.int (Int32.ofNat i)), some (.int (Int32.ofNat (wV m (s.1 * s.2.1) i (c.2.2.2.2.2.2 i)))), some (.int ((enV m (s.1 * s.2.1) i c.2.2.2.2.2.2 k) ||| ((Int32.ofInt 1) <<< ((Int32.ofNat k) &&& 31)))), some (.int (Int32.ofNat k))]) rfl (Nat.le_of_ble_eq_true rfl) rfl ?_
      refine g_iinc (i := 4) (L1 := [some (.ref 0), some (.int (Int32.ofNat i)), some (.int (Int32.ofNat (wV m (s.1 * s.2.1) i (c.2.2.2.2.2.2 i)))), some (.int ((enV m (s.1 * s.2.1) i c.2.2.2.2.2.2 k) ||| ((Int32.ofInt 1) <<< ((Int32.ofNat k) &&& 31)))), some (.int ((Int32.ofNat k) + Int32.ofInt 1))]) rfl rfl rfl ?_
      rw [ofN_add (by omega)]
      refine g_goto 40 rfl rfl ?_
      rw [← enV_y (m := m) (n := (s.1 * s.2.1)) (i := i) (k := k) (S := c.2.2.2.2.2.2) (by omega)]
      exact ih (k + 1) (by omega)
theorem s_env11 {d : Nat} {h : sHp} {ik tf : Int32} {c : CF} {m : MF} {s : Sg} {i : Nat} (hd : 5 ≤ d) (h0 : h[0]? = some (cO ik tf)) (F : FC h 5 c) (g : gdF c s.1 s.2.1) (r : RB c m) (sI : sgI c s) (hi : i < s.2.2) : sDo d 144 [.ref 0, .int (Int32.ofNat i)] h (fun r h' => r = some (.int (enV m (s.1 * s.2.1) i c.2.2.2.2.2.2 s.2.2)) ∧ h' = h) := by
  have n5 := sI.2.2.2.2.2.2.2
  have ei := ofN_toInt (n := i) (by omega)
  refine sDo_of1 (nL := 5) (L := [some (.ref 0), some (.int (Int32.ofNat i)), none, none, none]) (by omega) rfl rfl ?_
  refine g_aload_n (i := 0) rfl rfl ?_
  refine g_getfield (v := .ref 5) rfl h0 (by decide) rfl ?_
  refine g_iload_n (i := 1) rfl rfl ?_
  refine g_virt1 (Qc := fun r h' => h' = h ∧ (((0 ≤ (Int32.ofNat i).toInt ∧ (Int32.ofNat i).toInt < (s.2.2 : Int)) ∧ r = some (.int 1)) ∨ (¬ (0 ≤ (Int32.ofNat i).toInt ∧ (Int32.ofNat i).toInt < (s.2.2 : Int)) ∧ r = some (.int 0)))) rfl (by decide) rfl F.1 rfl (Nat.le_of_ble_eq_true rfl) (s_hr11 (by omega) F sI.2.2.1 n5) (fun r h hq9 => ?_)
  obtain ⟨rfl, ⟨c_1, rfl⟩ | ⟨c_1, rfl⟩⟩ := hq9
  · skip
    refine g_if_ne 17 rfl rfl (fun _ => ?_) (fun hc => absurd hc (by decide))
    refine g_aload_n (i := 0) rfl rfl ?_
    refine g_getfield (v := .ref 5) rfl h0 (by decide) rfl ?_
    refine g_iload_n (i := 1) rfl rfl ?_
    refine g_aload_n (i := 0) rfl rfl ?_
    refine g_getfield (v := .ref 5) rfl h0 (by decide) rfl ?_
    refine g_getfield (v := .ref (5 + 10)) rfl F.1 (by decide) rfl ?_
    refine g_iload_n (i := 1) rfl rfl ?_
    refine g_laload (n := 7) (f := c.2.2.2.2.2.2) rfl F.2.2.2.2.2.2 (i_in (by omega) (by omega)) ?_
    rw [i_nat ei]
    refine g_virt2 (Qc := fun r h' => h' = h ∧ r = some (.int (Int32.ofNat (wV m (s.1 * s.2.1) i (c.2.2.2.2.2.2 i))))) rfl (by decide) rfl F.1 rfl (Nat.le_of_ble_eq_true rfl) (s_worthOf11 (by omega) F g r sI hi) (fun r h hq9 => ?_)
    obtain ⟨rfl, rfl⟩ := hq9
    refine g_istore_n (i := 2) (L1 := [some (.ref 0), some (.int (Int32.ofNat i)), some (.int (Int32.ofNat (wV m (s.1 * s.2.1) i (c.2.2.2.2.2.2 i)))), none, none]) rfl (Nat.le_of_ble_eq_true rfl) rfl ?_
    refine g_iconst (n := 0) rfl ?_
    refine g_istore_n (i := 3) (L1 := [some (.ref 0), some (.int (Int32.ofNat i)), some (.int (Int32.ofNat (wV m (s.1 * s.2.1) i (c.2.2.2.2.2.2 i)))), some (.int (Int32.ofInt 0)), none]) rfl (Nat.le_of_ble_eq_true rfl) rfl ?_
    refine g_iconst (n := 0) rfl ?_
    refine g_istore (i := 4) (L1 := [some (.ref 0), some (.int (Int32.ofNat i)), some (.int (Int32.ofNat (wV m (s.1 * s.2.1) i (c.2.2.2.2.2.2 i)))), some (.int (Int32.ofInt 0)), some (.int (Int32.ofInt 0))]) rfl (Nat.le_of_ble_eq_true rfl) rfl ?_
    exact s_env11_go (d := d - 1) (by omega) h0 F g r sI hi s.2.2 0 (Nat.zero_add _)
  · skip
    omega
theorem s_env12_go {d : Nat} {h : sHp} {c : CF} {m : MF} {s : Sg} {i : Nat} {S : Nat → Int64} (hd : 4 ≤ d) (M : MC h m) (g : gdF c s.1 s.2.1) (gM : gdM m.1 s.1 s.2.1) (r : RB c m) (sI : sgI c s) (sJ : sgJ m.1 s) (P : PT S m.2.2.1 (s.1 * s.2.1)) (hi : i < s.2.2) : ∀ (f k : Nat), k + f = s.2.2 → sGo none 238 d 30 [some (.ref 60), some (.int (Int32.ofNat i)), some (.int (Int32.ofNat (wV m (s.1 * s.2.1) i (S i)))), some (.int (enV m (s.1 * s.2.1) i S k)), some (.int (Int32.ofNat k))] [] h (fun r h' => r = some (.int (enV m (s.1 * s.2.1) i S s.2.2)) ∧ h' = h) := by
  have n5 := sI.2.2.2.2.2.2.2
  have ei := ofN_toInt (n := i) (by omega)
  have RS := (r.2 s sI).1
  have hn := gdF_n g
  have e11 : (m.1 6).toInt = ((s.2.2 : Nat) : Int) := by rw [sJ.2.2.1]; exact ofN_toInt (by omega)
  have a1 := wV_le (x := S i) hn.1 RS hi
  have ew1 := ofC_toInt (n := wV m (s.1 * s.2.1) i (S i)) (by omega)
  intro f
  induction f with
  | zero =>
    intro k hk
    have ek := ofN_toInt (n := k) (by omega)
    have eN : s.2.2 = k := by omega
    refine g_iload (i := 4) rfl rfl ?_
    refine g_aload_n (i := 0) rfl rfl ?_
    refine g_getfield (v := .int (m.1 6)) rfl M.1 (by decide) rfl ?_
    refine g_icmp_ge 67 rfl rfl (fun _ => ?_) (fun hc => absurd hc (by rw [i_le, e11, ek]; omega))
    refine g_iload_n (i := 3) rfl rfl ?_
    refine g_ireturn (ty := .int) rfl rfl rfl ?_
    exact ⟨by rw [eN], rfl⟩
  | succ f ih =>
    intro k hk
    have ek := ofN_toInt (n := k) (by omega)
    have a2 := wV_le (x := S k) hn.1 RS hi
    have ew2 := ofC_toInt (n := wV m (s.1 * s.2.1) i (S k)) (by omega)
    refine g_iload (i := 4) rfl rfl ?_
    refine g_aload_n (i := 0) rfl rfl ?_
    refine g_getfield (v := .int (m.1 6)) rfl M.1 (by decide) rfl ?_
    refine g_icmp_ge 67 rfl rfl (fun hc => absurd hc (by rw [i_le, e11, ek]; omega)) (fun _ => ?_)
    refine g_aload_n (i := 0) rfl rfl ?_
    refine g_iload_n (i := 1) rfl rfl ?_
    refine g_aload_n (i := 0) rfl rfl ?_
    refine g_iload (i := 4) rfl rfl ?_
    refine g_virt1 (Qc := fun r h' => h' = h ∧ r = some (.long (S k))) rfl (by decide) rfl M.1 rfl (Nat.le_of_ble_eq_true rfl) (s_pc12 (k := k) (by omega) M gM P (by omega) (cdS_lt (by omega)).symm) (fun r h hq9 => ?_)
    obtain ⟨rfl, rfl⟩ := hq9
    refine g_virt2 (Qc := fun r h' => h' = h ∧ r = some (.int (Int32.ofNat (wV m (s.1 * s.2.1) i (S k))))) rfl (by decide) rfl M.1 rfl (Nat.le_of_ble_eq_true rfl) (s_worthOf12 (by omega) M g gM r sI hi) (fun r h hq9 => ?_)
    obtain ⟨rfl, rfl⟩ := hq9
    refine g_iload_n (i := 2) rfl rfl ?_
    refine g_icmp_le 61 rfl rfl (fun c_1 => ?_) (fun c_1 => ?_)
    · skip
      rw [i_le, ew2, ew1] at c_1
      refine g_iinc (i := 4) (L1 := [some (.ref 60), some (.int (Int32.ofNat i)), some (.int (Int32.ofNat (wV m (s.1 * s.2.1) i (S i)))), some (.int (enV m (s.1 * s.2.1) i S k)), some (.int ((Int32.ofNat k) + Int32.ofInt 1))]) rfl rfl rfl ?_
      rw [ofN_add (by omega)]
      refine g_goto 30 rfl rfl ?_
      rw [← enV_n (m := m) (n := (s.1 * s.2.1)) (i := i) (k := k) (S := S) (by omega)]
      exact ih (k + 1) (by omega)
    · skip
      rw [i_le, ew2, ew1] at c_1
      refine g_iload_n (i := 3) rfl rfl ?_
      refine g_iconst (n := 1) rfl ?_
      refine g_iload (i := 4) rfl rfl ?_
      refine g_ishl rfl ?_
      refine g_ior rfl ?_
      refine g_istore_n (i := 3) (L1 := [some (.ref 60), some (.int (Int32.ofNat i)), some (.int (Int32.ofNat (wV m (s.1 * s.2.1) i (S i)))), some (.int ((enV m (s.1 * s.2.1) i S k) ||| ((Int32.ofInt 1) <<< ((Int32.ofNat k) &&& 31)))), some (.int (Int32.ofNat k))]) rfl (Nat.le_of_ble_eq_true rfl) rfl ?_
      refine g_iinc (i := 4) (L1 := [some (.ref 60), some (.int (Int32.ofNat i)), some (.int (Int32.ofNat (wV m (s.1 * s.2.1) i (S i)))), some (.int ((enV m (s.1 * s.2.1) i S k) ||| ((Int32.ofInt 1) <<< ((Int32.ofNat k) &&& 31)))), some (.int ((Int32.ofNat k) + Int32.ofInt 1))]) rfl rfl rfl ?_
      rw [ofN_add (by omega)]
      refine g_goto 30 rfl rfl ?_
      rw [← enV_y (m := m) (n := (s.1 * s.2.1)) (i := i) (k := k) (S := S) (by omega)]
      exact ih (k + 1) (by omega)
theorem s_env12 {d : Nat} {h : sHp} {c : CF} {m : MF} {s : Sg} {i : Nat} {S : Nat → Int64} (hd : 5 ≤ d) (M : MC h m) (g : gdF c s.1 s.2.1) (gM : gdM m.1 s.1 s.2.1) (r : RB c m) (sI : sgI c s) (sJ : sgJ m.1 s) (P : PT S m.2.2.1 (s.1 * s.2.1)) (hi : i < s.2.2) : sDo d 238 [.ref 60, .int (Int32.ofNat i)] h (fun r h' => r = some (.int (enV m (s.1 * s.2.1) i S s.2.2)) ∧ h' = h) := by
  have n5 := sI.2.2.2.2.2.2.2
  have ei := ofN_toInt (n := i) (by omega)
  refine sDo_of1 (nL := 5) (L := [some (.ref 60), some (.int (Int32.ofNat i)), none, none, none]) (by omega) rfl rfl ?_
  refine g_aload_n (i := 0) rfl rfl ?_
  refine g_iload_n (i := 1) rfl rfl ?_
  refine g_virt1 (Qc := fun r h' => h' = h ∧ (((0 ≤ (Int32.ofNat i).toInt ∧ (Int32.ofNat i).toInt < (s.2.2 : Int)) ∧ r = some (.int 1)) ∨ (¬ (0 ≤ (Int32.ofNat i).toInt ∧ (Int32.ofNat i).toInt < (s.2.2 : Int)) ∧ r = some (.int 0)))) rfl (by decide) rfl M.1 rfl (Nat.le_of_ble_eq_true rfl) (s_hr12 (by omega) M.1 sJ.2.2.1 n5) (fun r h hq9 => ?_)
  obtain ⟨rfl, ⟨c_1, rfl⟩ | ⟨c_1, rfl⟩⟩ := hq9
  · skip
    refine g_if_ne 14 rfl rfl (fun _ => ?_) (fun hc => absurd hc (by decide))
    refine g_aload_n (i := 0) rfl rfl ?_
    refine g_iload_n (i := 1) rfl rfl ?_
    refine g_aload_n (i := 0) rfl rfl ?_
    refine g_iload_n (i := 1) rfl rfl ?_
    refine g_virt1 (Qc := fun r h' => h' = h ∧ r = some (.long (S i))) rfl (by decide) rfl M.1 rfl (Nat.le_of_ble_eq_true rfl) (s_pc12 (k := i) (by omega) M gM P (by omega) (cdS_lt (by omega)).symm) (fun r h hq9 => ?_)
    obtain ⟨rfl, rfl⟩ := hq9
    refine g_virt2 (Qc := fun r h' => h' = h ∧ r = some (.int (Int32.ofNat (wV m (s.1 * s.2.1) i (S i))))) rfl (by decide) rfl M.1 rfl (Nat.le_of_ble_eq_true rfl) (s_worthOf12 (by omega) M g gM r sI hi) (fun r h hq9 => ?_)
    obtain ⟨rfl, rfl⟩ := hq9
    refine g_istore_n (i := 2) (L1 := [some (.ref 60), some (.int (Int32.ofNat i)), some (.int (Int32.ofNat (wV m (s.1 * s.2.1) i (S i)))), none, none]) rfl (Nat.le_of_ble_eq_true rfl) rfl ?_
    refine g_iconst (n := 0) rfl ?_
    refine g_istore_n (i := 3) (L1 := [some (.ref 60), some (.int (Int32.ofNat i)), some (.int (Int32.ofNat (wV m (s.1 * s.2.1) i (S i)))), some (.int (Int32.ofInt 0)), none]) rfl (Nat.le_of_ble_eq_true rfl) rfl ?_
    refine g_iconst (n := 0) rfl ?_
    refine g_istore (i := 4) (L1 := [some (.ref 60), some (.int (Int32.ofNat i)), some (.int (Int32.ofNat (wV m (s.1 * s.2.1) i (S i)))), some (.int (Int32.ofInt 0)), some (.int (Int32.ofInt 0))]) rfl (Nat.le_of_ble_eq_true rfl) rfl ?_
    exact s_env12_go (d := d - 1) (by omega) M g gM r sI sJ P hi s.2.2 0 (Nat.zero_add _)
  · skip
    omega
def evV (m : MF) (n N i : Nat) (x : Int64) : Int32 := (Int32.ofNat (shN m i) * Int32.ofNat (wV m n i (stO (fun _ => true) n)) - Int32.ofNat (wV m n i x) * Int32.ofNat (ssN m N)) / Int32.ofNat (ssN m N)
theorem ssN_pos {m : MF} : ∀ k, (∀ i, i < k → 1 ≤ shN m i) → 0 < k → 1 ≤ ssN m k := by
  intro k hs hk
  obtain ⟨j, rfl⟩ : ∃ j, k = j + 1 := ⟨k - 1, by omega⟩
  have := hs j (by omega)
  show 1 ≤ ssN m j + shN m j
  omega
theorem ev_nz {c : CF} {m : MF} {s : Sg} {i : Nat} (RS : RSs s c m) (n5 : s.2.2 ≤ 5) (hi : i < s.2.2) : ¬ Int32.ofNat (ssN m s.2.2) = 0 := fun z => by
  have a1 := ssN_pos (m := m) s.2.2 (fun i hi => (RB_sh RS hi).1) (by omega)
  have a2 := ssN_le (m := m) s.2.2 (fun i hi => (RB_sh RS hi).2.1)
  have z := congrArg Int32.toInt z
  rw [ofC_toInt (by omega), show (0 : Int32).toInt = 0 from rfl] at z
  omega
theorem ev_b {c : CF} {m : MF} {s : Sg} {i : Nat} {x : Int64} (hn : (s.1 * s.2.1) ≤ 64) (RS : RSs s c m) (n5 : s.2.2 ≤ 5) (hi : i < s.2.2) : wV m (s.1 * s.2.1) i x * ssN m s.2.2 ≤ 6356 * 45 ∧ shN m i * wV m (s.1 * s.2.1) i (stO (fun _ => true) (s.1 * s.2.1)) ≤ 9 * 6356 := by
  have a1 := wV_le (x := x) hn RS hi
  have a2 := wV_le (x := stO (fun _ => true) (s.1 * s.2.1)) hn RS hi
  have a3 := ssN_le (m := m) s.2.2 (fun i hi => (RB_sh RS hi).2.1)
  exact ⟨Nat.mul_le_mul a1 (by omega), Nat.mul_le_mul (RB_sh RS hi).2.1 a2⟩
theorem ev_v {c : CF} {m : MF} {s : Sg} {i : Nat} {x : Int64} {v : Int32} (hn : (s.1 * s.2.1) ≤ 64) (RS : RSs s c m) (n5 : s.2.2 ≤ 5) (hi : i < s.2.2) (hv : v.toInt = ((wV m (s.1 * s.2.1) i x * ssN m s.2.2 : Nat) : Int) - ((shN m i * wV m (s.1 * s.2.1) i (stO (fun _ => true) (s.1 * s.2.1)) : Nat) : Int)) : -v / Int32.ofNat (ssN m s.2.2) = evV m (s.1 * s.2.1) s.2.2 i x := by
  have a1 := wV_le (x := x) hn RS hi
  have a2 := wV_le (x := stO (fun _ => true) (s.1 * s.2.1)) hn RS hi
  have a3 := ssN_le (m := m) s.2.2 (fun i hi => (RB_sh RS hi).2.1)
  have a4 := RB_sh RS hi
  obtain ⟨p1, p2⟩ := ev_b (x := x) hn RS n5 hi
  have m1 : (Int32.ofNat (wV m (s.1 * s.2.1) i x) * Int32.ofNat (ssN m s.2.2)).toInt = ((wV m (s.1 * s.2.1) i x * ssN m s.2.2 : Nat) : Int) := n_mul (ofC_toInt (by omega)) (ofC_toInt (by omega)) (by omega)
  have m2 : (Int32.ofNat (shN m i) * Int32.ofNat (wV m (s.1 * s.2.1) i (stO (fun _ => true) (s.1 * s.2.1)))).toInt = ((shN m i * wV m (s.1 * s.2.1) i (stO (fun _ => true) (s.1 * s.2.1)) : Nat) : Int) := n_mul (ofC_toInt (by omega)) (ofC_toInt (by omega)) (by omega)
  have e : -v = Int32.ofNat (shN m i) * Int32.ofNat (wV m (s.1 * s.2.1) i (stO (fun _ => true) (s.1 * s.2.1))) - Int32.ofNat (wV m (s.1 * s.2.1) i x) * Int32.ofNat (ssN m s.2.2) := Int32.toInt_inj.mp (by rw [i_neg (by rw [hv]; omega), i_sub (by rw [m1, m2]; omega) (by rw [m1, m2]; omega), m1, m2, hv]; omega)
  unfold evV
  rw [e]
theorem s_ev11 {d : Nat} {h : sHp} {ik tf : Int32} {c : CF} {m : MF} {s : Sg} {i : Nat} (hd : 6 ≤ d) (h0 : h[0]? = some (cO ik tf)) (F : FC h 5 c) (g : gdF c s.1 s.2.1) (r : RB c m) (sI : sgI c s) (hi : i < s.2.2) : sDo d 145 [.ref 0, .int (Int32.ofNat i)] h (fun r h' => r = some (.int (evV m (s.1 * s.2.1) s.2.2 i (c.2.2.2.2.2.2 i))) ∧ h' = h) := by
  have n5 := sI.2.2.2.2.2.2.2
  have ei := ofN_toInt (n := i) (by omega)
  have RS := (r.2 s sI).1
  have hn := gdF_n g
  have nz := ev_nz RS n5 hi
  refine sDo_of1 (nL := 3) (L := [some (.ref 0), some (.int (Int32.ofNat i)), none]) (by omega) rfl rfl ?_
  refine g_aload_n (i := 0) rfl rfl ?_
  refine g_getfield (v := .ref 5) rfl h0 (by decide) rfl ?_
  refine g_iload_n (i := 1) rfl rfl ?_
  refine g_virt1 (Qc := fun r h' => h' = h ∧ (((0 ≤ (Int32.ofNat i).toInt ∧ (Int32.ofNat i).toInt < (s.2.2 : Int)) ∧ r = some (.int 1)) ∨ (¬ (0 ≤ (Int32.ofNat i).toInt ∧ (Int32.ofNat i).toInt < (s.2.2 : Int)) ∧ r = some (.int 0)))) rfl (by decide) rfl F.1 rfl (Nat.le_of_ble_eq_true rfl) (s_hr11 (by omega) F sI.2.2.1 n5) (fun r h hq9 => ?_)
  obtain ⟨rfl, ⟨c_1, rfl⟩ | ⟨c_1, rfl⟩⟩ := hq9
  · skip
    refine g_if_ne 20 rfl rfl (fun _ => ?_) (fun hc => absurd hc (by decide))
    refine g_aload_n (i := 0) rfl rfl ?_
    refine g_getfield (v := .ref 5) rfl h0 (by decide) rfl ?_
    refine g_virt0 (Qc := fun r h' => h' = h ∧ r = some (.int (Int32.ofNat (ssN m s.2.2)))) rfl (by decide) rfl F.1 rfl (Nat.le_of_ble_eq_true rfl) (s_shares11 (by omega) F r sI) (fun r h hq9 => ?_)
    obtain ⟨rfl, rfl⟩ := hq9
    refine g_istore_n (i := 2) (L1 := [some (.ref 0), some (.int (Int32.ofNat i)), some (.int (Int32.ofNat (ssN m s.2.2)))]) rfl (Nat.le_of_ble_eq_true rfl) rfl ?_
    refine g_iload_n (i := 2) rfl rfl ?_
    refine g_if_ne 36 rfl rfl (fun _ => ?_) (fun hc => absurd hc (by exact nz))
    refine g_aload_n (i := 0) rfl rfl ?_
    refine g_getfield (v := .ref 5) rfl h0 (by decide) rfl ?_
    refine g_iload_n (i := 1) rfl rfl ?_
    refine g_aload_n (i := 0) rfl rfl ?_
    refine g_getfield (v := .ref 5) rfl h0 (by decide) rfl ?_
    refine g_getfield (v := .ref (5 + 10)) rfl F.1 (by decide) rfl ?_
    refine g_iload_n (i := 1) rfl rfl ?_
    refine g_laload (n := 7) (f := c.2.2.2.2.2.2) rfl F.2.2.2.2.2.2 (i_in (by omega) (by omega)) ?_
    rw [i_nat ei]
    refine g_virt2 (Qc := fun r h' => h' = h ∧ ∃ v : Int32, v.toInt = ((wV m (s.1 * s.2.1) i (c.2.2.2.2.2.2 i) * ssN m s.2.2 : Nat) : Int) - ((shN m i * wV m (s.1 * s.2.1) i (stO (fun _ => true) (s.1 * s.2.1)) : Nat) : Int) ∧ r = some (.int v)) rfl (by decide) rfl F.1 rfl (Nat.le_of_ble_eq_true rfl) (s_surplus11 (by omega) F g r sI hi) (fun r h hq9 => ?_)
    obtain ⟨rfl, v, hv, rfl⟩ := hq9
    refine g_ineg rfl ?_
    refine g_iload_n (i := 2) rfl rfl ?_
    refine g_idiv rfl (by exact nz) ?_
    refine g_ireturn (ty := .int) rfl rfl rfl ?_
    exact ⟨by rw [← ev_v hn.1 RS n5 hi hv], rfl⟩
  · skip
    omega
theorem s_ev12 {d : Nat} {h : sHp} {c : CF} {m : MF} {s : Sg} {i : Nat} {S : Nat → Int64} (hd : 5 ≤ d) (M : MC h m) (g : gdF c s.1 s.2.1) (gM : gdM m.1 s.1 s.2.1) (r : RB c m) (sI : sgI c s) (sJ : sgJ m.1 s) (P : PT S m.2.2.1 (s.1 * s.2.1)) (hi : i < s.2.2) : sDo d 239 [.ref 60, .int (Int32.ofNat i)] h (fun r h' => r = some (.int (evV m (s.1 * s.2.1) s.2.2 i (S i))) ∧ h' = h) := by
  have n5 := sI.2.2.2.2.2.2.2
  have ei := ofN_toInt (n := i) (by omega)
  have RS := (r.2 s sI).1
  have nz := ev_nz RS n5 hi
  have a4 := RB_sh RS hi
  refine sDo_of1 (nL := 2) (L := [some (.ref 60), some (.int (Int32.ofNat i))]) (by omega) rfl rfl ?_
  refine g_aload_n (i := 0) rfl rfl ?_
  refine g_iload_n (i := 1) rfl rfl ?_
  refine g_virt1 (Qc := fun r h' => h' = h ∧ (((0 ≤ (Int32.ofNat i).toInt ∧ (Int32.ofNat i).toInt < (s.2.2 : Int)) ∧ r = some (.int 1)) ∨ (¬ (0 ≤ (Int32.ofNat i).toInt ∧ (Int32.ofNat i).toInt < (s.2.2 : Int)) ∧ r = some (.int 0)))) rfl (by decide) rfl M.1 rfl (Nat.le_of_ble_eq_true rfl) (s_hr12 (by omega) M.1 sJ.2.2.1 n5) (fun r h hq9 => ?_)
  obtain ⟨rfl, ⟨c_1, rfl⟩ | ⟨c_1, rfl⟩⟩ := hq9
  · skip
    refine g_if_ne 18 rfl rfl (fun _ => ?_) (fun hc => absurd hc (by decide))
    refine g_aload_n (i := 0) rfl rfl ?_
    refine g_getfield (v := .ref 64) rfl M.1 (by decide) rfl ?_
    refine g_iload_n (i := 1) rfl rfl ?_
    refine g_iaload (n := 5) (f := m.2.2.2.1) rfl M.2.2.2.1 (i_in (by omega) (by omega)) ?_
    rw [i_nat ei, a4.2.2.1]
    refine g_aload_n (i := 0) rfl rfl ?_
    refine g_iload_n (i := 1) rfl rfl ?_
    refine g_aload_n (i := 0) rfl rfl ?_
    refine g_virt0 (Qc := fun r h' => h' = h ∧ r = some (.long (stO (fun _ => true) (s.1 * s.2.1)))) rfl (by decide) rfl M.1 rfl (Nat.le_of_ble_eq_true rfl) (s_all12 (by omega) M.1 gM) (fun r h hq9 => ?_)
    obtain ⟨rfl, rfl⟩ := hq9
    refine g_virt2 (Qc := fun r h' => h' = h ∧ r = some (.int (Int32.ofNat (wV m (s.1 * s.2.1) i (stO (fun _ => true) (s.1 * s.2.1)))))) rfl (by decide) rfl M.1 rfl (Nat.le_of_ble_eq_true rfl) (s_worthOf12 (by omega) M g gM r sI hi) (fun r h hq9 => ?_)
    obtain ⟨rfl, rfl⟩ := hq9
    refine g_imul rfl ?_
    refine g_aload_n (i := 0) rfl rfl ?_
    refine g_iload_n (i := 1) rfl rfl ?_
    refine g_aload_n (i := 0) rfl rfl ?_
    refine g_iload_n (i := 1) rfl rfl ?_
    refine g_virt1 (Qc := fun r h' => h' = h ∧ r = some (.long (S i))) rfl (by decide) rfl M.1 rfl (Nat.le_of_ble_eq_true rfl) (s_pc12 (k := i) (by omega) M gM P (by omega) (cdS_lt (by omega)).symm) (fun r h hq9 => ?_)
    obtain ⟨rfl, rfl⟩ := hq9
    refine g_virt2 (Qc := fun r h' => h' = h ∧ r = some (.int (Int32.ofNat (wV m (s.1 * s.2.1) i (S i))))) rfl (by decide) rfl M.1 rfl (Nat.le_of_ble_eq_true rfl) (s_worthOf12 (by omega) M g gM r sI hi) (fun r h hq9 => ?_)
    obtain ⟨rfl, rfl⟩ := hq9
    refine g_aload_n (i := 0) rfl rfl ?_
    refine g_virt0 (Qc := fun r h' => h' = h ∧ r = some (.int (Int32.ofNat (ssN m s.2.2)))) rfl (by decide) rfl M.1 rfl (Nat.le_of_ble_eq_true rfl) (s_shares12 (by omega) M r sI sJ) (fun r h hq9 => ?_)
    obtain ⟨rfl, rfl⟩ := hq9
    refine g_imul rfl ?_
    refine g_isub rfl ?_
    refine g_aload_n (i := 0) rfl rfl ?_
    refine g_virt0 (Qc := fun r h' => h' = h ∧ r = some (.int (Int32.ofNat (ssN m s.2.2)))) rfl (by decide) rfl M.1 rfl (Nat.le_of_ble_eq_true rfl) (s_shares12 (by omega) M r sI sJ) (fun r h hq9 => ?_)
    obtain ⟨rfl, rfl⟩ := hq9
    refine g_idiv rfl (by exact nz) ?_
    refine g_ireturn (ty := .int) rfl rfl rfl ?_
    exact ⟨rfl, rfl⟩
  · skip
    omega
theorem s_env11n {d : Nat} {h : sHp} {ik tf : Int32} {R : Nat → Int32} {c : CF} {s : Sg} {x : Int32} (hd : 4 ≤ d) (h0 : h[0]? = some (cO ik tf)) (hR : h[43]? = some (rFc R)) (F : FC h 5 c) (sI : sgI c s) (hx : ¬ (0 ≤ x.toInt ∧ x.toInt < (s.2.2 : Int))) : sDo d 144 [.ref 0, .int x] h (fun r h' => r = some (.int (-1)) ∧ h' = h.set 43 (rFc (bump R 1))) := by
  have n5 := sI.2.2.2.2.2.2.2
  refine sDo_of1 (nL := 5) (L := [some (.ref 0), some (.int x), none, none, none]) (by omega) rfl rfl ?_
  refine g_aload_n (i := 0) rfl rfl ?_
  refine g_getfield (v := .ref 5) rfl h0 (by decide) rfl ?_
  refine g_iload_n (i := 1) rfl rfl ?_
  refine g_virt1 (Qc := fun r h' => h' = h ∧ (((0 ≤ x.toInt ∧ x.toInt < (s.2.2 : Int)) ∧ r = some (.int 1)) ∨ (¬ (0 ≤ x.toInt ∧ x.toInt < (s.2.2 : Int)) ∧ r = some (.int 0)))) rfl (by decide) rfl F.1 rfl (Nat.le_of_ble_eq_true rfl) (s_hr11 (by omega) F sI.2.2.1 n5) (fun r h hq9 => ?_)
  obtain ⟨rfl, ⟨c_1, rfl⟩ | ⟨c_1, rfl⟩⟩ := hq9
  · skip
    exact absurd c_1 hx
  · skip
    refine g_if_ne 17 rfl rfl (fun hc => absurd hc (by decide)) (fun _ => ?_)
    refine g_aload_n (i := 0) rfl rfl ?_
    refine g_iconst (n := (-1)) rfl ?_
    refine g_virt1 (Qc := fun r h' => r = some (.int ((Int32.ofInt (-1)))) ∧ h' = h.set 43 (rFc (bump R 1))) rfl (by decide) rfl h0 rfl (Nat.le_of_ble_eq_true rfl) (s_refuse2 (X := 1) (by omega) h0 hR rfl (by decide)) (fun r h9 hq9 => ?_)
    obtain ⟨rfl, rfl⟩ := hq9
    refine g_ireturn (ty := .int) rfl rfl rfl ?_
    exact ⟨rfl, rfl⟩
theorem s_env12n {d : Nat} {h : sHp} {R : Nat → Int32} {m : MF} {s : Sg} {x : Int32} (hd : 4 ≤ d) (M : MC h m) (hR : h[61]? = some (rFc R)) (sJ : sgJ m.1 s) (hx : ¬ (0 ≤ x.toInt ∧ x.toInt < (s.2.2 : Int))) : sDo d 238 [.ref 60, .int x] h (fun r h' => r = some (.int (-1)) ∧ h' = h.set 61 (rFc (bump R 1))) := by
  have n5 := sJ.2.2.2.2.2.2.2
  refine sDo_of1 (nL := 5) (L := [some (.ref 60), some (.int x), none, none, none]) (by omega) rfl rfl ?_
  refine g_aload_n (i := 0) rfl rfl ?_
  refine g_iload_n (i := 1) rfl rfl ?_
  refine g_virt1 (Qc := fun r h' => h' = h ∧ (((0 ≤ x.toInt ∧ x.toInt < (s.2.2 : Int)) ∧ r = some (.int 1)) ∨ (¬ (0 ≤ x.toInt ∧ x.toInt < (s.2.2 : Int)) ∧ r = some (.int 0)))) rfl (by decide) rfl M.1 rfl (Nat.le_of_ble_eq_true rfl) (s_hr12 (by omega) M.1 sJ.2.2.1 n5) (fun r h hq9 => ?_)
  obtain ⟨rfl, ⟨c_1, rfl⟩ | ⟨c_1, rfl⟩⟩ := hq9
  · skip
    exact absurd c_1 hx
  · skip
    refine g_if_ne 14 rfl rfl (fun hc => absurd hc (by decide)) (fun _ => ?_)
    refine g_aload_n (i := 0) rfl rfl ?_
    refine g_iconst (n := (-1)) rfl ?_
    refine g_virt1 (Qc := fun r h' => r = some (.int ((Int32.ofInt (-1)))) ∧ h' = h.set 61 (rFc (bump R 1))) rfl (by decide) rfl M.1 rfl (Nat.le_of_ble_eq_true rfl) (s_no2 (X := 1) (by omega) M.1 hR rfl (by decide)) (fun r h9 hq9 => ?_)
    obtain ⟨rfl, rfl⟩ := hq9
    refine g_ireturn (ty := .int) rfl rfl rfl ?_
    exact ⟨rfl, rfl⟩
theorem s_ev11n {d : Nat} {h : sHp} {ik tf : Int32} {R : Nat → Int32} {c : CF} {s : Sg} {x : Int32} (hd : 4 ≤ d) (h0 : h[0]? = some (cO ik tf)) (hR : h[43]? = some (rFc R)) (F : FC h 5 c) (sI : sgI c s) (hx : ¬ (0 ≤ x.toInt ∧ x.toInt < (s.2.2 : Int))) : sDo d 145 [.ref 0, .int x] h (fun r h' => r = some (.int (Int32.ofNat 4293967295)) ∧ h' = h.set 43 (rFc (bump R 1))) := by
  have n5 := sI.2.2.2.2.2.2.2
  refine sDo_of1 (nL := 3) (L := [some (.ref 0), some (.int x), none]) (by omega) rfl rfl ?_
  refine g_aload_n (i := 0) rfl rfl ?_
  refine g_getfield (v := .ref 5) rfl h0 (by decide) rfl ?_
  refine g_iload_n (i := 1) rfl rfl ?_
  refine g_virt1 (Qc := fun r h' => h' = h ∧ (((0 ≤ x.toInt ∧ x.toInt < (s.2.2 : Int)) ∧ r = some (.int 1)) ∨ (¬ (0 ≤ x.toInt ∧ x.toInt < (s.2.2 : Int)) ∧ r = some (.int 0)))) rfl (by decide) rfl F.1 rfl (Nat.le_of_ble_eq_true rfl) (s_hr11 (by omega) F sI.2.2.1 n5) (fun r h hq9 => ?_)
  obtain ⟨rfl, ⟨c_1, rfl⟩ | ⟨c_1, rfl⟩⟩ := hq9
  · skip
    exact absurd c_1 hx
  · skip
    refine g_if_ne 20 rfl rfl (fun hc => absurd hc (by decide)) (fun _ => ?_)
    refine g_aload_n (i := 0) rfl rfl ?_
    refine g_iconst (n := (-1)) rfl ?_
    refine g_ldc_w (j := 4293967295) rfl ?_
    refine g_virt2 (Qc := fun r h' => r = some (.int ((Int32.ofNat 4293967295))) ∧ h' = h.set 43 (rFc (bump R 1))) rfl (by decide) rfl h0 rfl (Nat.le_of_ble_eq_true rfl) (s_refA2 (X := 1) (by omega) h0 hR rfl (by decide)) (fun r h9 hq9 => ?_)
    obtain ⟨rfl, rfl⟩ := hq9
    refine g_ireturn (ty := .int) rfl rfl rfl ?_
    exact ⟨rfl, rfl⟩
theorem s_ev12n {d : Nat} {h : sHp} {R : Nat → Int32} {m : MF} {s : Sg} {x : Int32} (hd : 4 ≤ d) (M : MC h m) (hR : h[61]? = some (rFc R)) (sJ : sgJ m.1 s) (hx : ¬ (0 ≤ x.toInt ∧ x.toInt < (s.2.2 : Int))) : sDo d 239 [.ref 60, .int x] h (fun r h' => r = some (.int (Int32.ofNat 4293967295)) ∧ h' = h.set 61 (rFc (bump R 1))) := by
  have n5 := sJ.2.2.2.2.2.2.2
  refine sDo_of1 (nL := 2) (L := [some (.ref 60), some (.int x)]) (by omega) rfl rfl ?_
  refine g_aload_n (i := 0) rfl rfl ?_
  refine g_iload_n (i := 1) rfl rfl ?_
  refine g_virt1 (Qc := fun r h' => h' = h ∧ (((0 ≤ x.toInt ∧ x.toInt < (s.2.2 : Int)) ∧ r = some (.int 1)) ∨ (¬ (0 ≤ x.toInt ∧ x.toInt < (s.2.2 : Int)) ∧ r = some (.int 0)))) rfl (by decide) rfl M.1 rfl (Nat.le_of_ble_eq_true rfl) (s_hr12 (by omega) M.1 sJ.2.2.1 n5) (fun r h hq9 => ?_)
  obtain ⟨rfl, ⟨c_1, rfl⟩ | ⟨c_1, rfl⟩⟩ := hq9
  · skip
    exact absurd c_1 hx
  · skip
    refine g_if_ne 18 rfl rfl (fun hc => absurd hc (by decide)) (fun _ => ?_)
    refine g_aload_n (i := 0) rfl rfl ?_
    refine g_iconst (n := (-1)) rfl ?_
    refine g_virt1 (Qc := fun r h' => r = some (.int ((Int32.ofInt (-1)))) ∧ h' = h.set 61 (rFc (bump R 1))) rfl (by decide) rfl M.1 rfl (Nat.le_of_ble_eq_true rfl) (s_no2 (X := 1) (by omega) M.1 hR rfl (by decide)) (fun r h9 hq9 => ?_)
    obtain ⟨rfl, rfl⟩ := hq9
    refine g_pop rfl rfl ?_
    refine g_ldc_w (j := 4293967295) rfl ?_
    refine g_ireturn (ty := .int) rfl rfl rfl ?_
    exact ⟨rfl, rfl⟩
theorem pr9_envies (x : Int32) : pairR bR9 144 238 [.int x] := pr_qR (c1 := cn_X11_envies_0) (c2 := cn_X12_envies_0) ch_X11_envies_0 ch_X12_envies_0 (by decide +kernel) (by decide +kernel) (by decide +kernel) (by decide +kernel) rfl rfl (fun h hH => ⟨bt0 hH, vI0 x, trivial⟩) (fun h hH => ⟨bt60 hH, vI0 x, trivial⟩) (fun hH a q => bR9_fr hH a (by decide +kernel) q) (fun hH a q => bR9_fr hH a (by decide +kernel) q) (fun h hH hR => by
  obtain ⟨⟨hd, so, sz, co, cl, f, gg, q4, bs⟩, c, ck, m, gk, ik, tf, kc, km, ej, rl, rk⟩ := hR
  have F := kc.1
  have h0 := kc.2.2.1
  have M := km.1
  obtain ⟨R, hR43⟩ := RA_of hH (p := 43) (Or.inl rfl)
  obtain ⟨s, sI, sJ, g, gM⟩ := RN_sg rl.1.1
  have n5 := sI.2.2.2.2.2.2.2
  have hn := gdF_n g
  have PO := rl.2 s sI
  by_cases hx : 0 ≤ x.toInt ∧ x.toInt < (s.2.2 : Int)
  · obtain ⟨i, hi⟩ : ∃ i : Nat, x.toInt = i := ⟨x.toInt.toNat, by omega⟩
    have ex : x = Int32.ofNat i := Int32.toInt_inj.mp (by rw [hi, ofN_toInt (by omega)])
    subst ex
    exact ⟨_, sDo_mono (s_env11 (d := 10) (by omega) h0 F g rl.1 sI (by omega)) (fun r h' q => ⟨q.1, by rw [q.2]; exact vE_rfl⟩), fun h1 hH1 E => sDo_mono (s_env12 (d := 10) (by omega) (MC_vE M E) g gM rl.1 sI sJ PO (by omega)) (fun r h' q => q.1)⟩
  · refine ⟨_, sDo_mono (s_env11n (d := 10) (by omega) h0 hR43 F sI hx) (fun r h' q => ⟨q.1, by rw [q.2]; exact vE_43⟩), fun h1 hH1 E => ?_⟩
    obtain ⟨Rm, hRm⟩ := RA_of hH1 (p := 61) (Or.inr rfl)
    exact sDo_mono (s_env12n (d := 10) (by omega) (MC_vE M E) hRm sJ hx) (fun r h' q => q.1))
theorem pr9_evens (x : Int32) : pairR bR9 145 239 [.int x] := pr_qR (c1 := cn_X11_evens_0) (c2 := cn_X12_evens_0) ch_X11_evens_0 ch_X12_evens_0 (by decide +kernel) (by decide +kernel) (by decide +kernel) (by decide +kernel) rfl rfl (fun h hH => ⟨bt0 hH, vI0 x, trivial⟩) (fun h hH => ⟨bt60 hH, vI0 x, trivial⟩) (fun hH a q => bR9_fr hH a (by decide +kernel) q) (fun hH a q => bR9_fr hH a (by decide +kernel) q) (fun h hH hR => by
  obtain ⟨⟨hd, so, sz, co, cl, f, gg, q4, bs⟩, c, ck, m, gk, ik, tf, kc, km, ej, rl, rk⟩ := hR
  have F := kc.1
  have h0 := kc.2.2.1
  have M := km.1
  obtain ⟨R, hR43⟩ := RA_of hH (p := 43) (Or.inl rfl)
  obtain ⟨s, sI, sJ, g, gM⟩ := RN_sg rl.1.1
  have n5 := sI.2.2.2.2.2.2.2
  have hn := gdF_n g
  have PO := rl.2 s sI
  by_cases hx : 0 ≤ x.toInt ∧ x.toInt < (s.2.2 : Int)
  · obtain ⟨i, hi⟩ : ∃ i : Nat, x.toInt = i := ⟨x.toInt.toNat, by omega⟩
    have ex : x = Int32.ofNat i := Int32.toInt_inj.mp (by rw [hi, ofN_toInt (by omega)])
    subst ex
    exact ⟨_, sDo_mono (s_ev11 (d := 10) (by omega) h0 F g rl.1 sI (by omega)) (fun r h' q => ⟨q.1, by rw [q.2]; exact vE_rfl⟩), fun h1 hH1 E => sDo_mono (s_ev12 (d := 10) (by omega) (MC_vE M E) g gM rl.1 sI sJ PO (by omega)) (fun r h' q => q.1)⟩
  · refine ⟨_, sDo_mono (s_ev11n (d := 10) (by omega) h0 hR43 F sI hx) (fun r h' q => ⟨q.1, by rw [q.2]; exact vE_43⟩), fun h1 hH1 E => ?_⟩
    obtain ⟨Rm, hRm⟩ := RA_of hH1 (p := 61) (Or.inr rfl)
    exact sDo_mono (s_ev12n (d := 10) (by omega) (MC_vE M E) hRm sJ hx) (fun r h' q => q.1))
