/-! ===== the machine does what the simple one does: stack and locals ===== -/
section SND
variable {p : Program} {l : Launch} {e : Env} {R : Room} {s : State} {m : MethodId} {args : Array Value} {below : List Frame} {meth : Method} {c : Code} {H : Heap} {locs : List Loc} {cells slots : Nat} {Q : State → Prop} {cc : ByteArray} {pc : Nat} {ls : Array Slot} {σ : Nat → Nat}
theorem s2i_of {f : Int32 → Int32 → Option Value} {st st' : List Value} (h : s2i f st = some st') : ∃ x y v r, st = .int y :: .int x :: r ∧ f x y = some v ∧ st' = v :: r := by
  unfold s2i at h
  split at h
  · obtain ⟨v, h1, h2⟩ := Option.map_eq_some_iff.mp h
    exact ⟨_, _, v, _, rfl, h1, h2.symm⟩
  · cases h
theorem s2l_of {f : Int64 → Int64 → Option Value} {st st' : List Value} (h : s2l f st = some st') : ∃ x y v r, st = .long y :: .long x :: r ∧ f x y = some v ∧ st' = v :: r := by
  unfold s2l at h
  split at h
  · obtain ⟨v, h1, h2⟩ := Option.map_eq_some_iff.mp h
    exact ⟨_, _, v, _, rfl, h1, h2.symm⟩
  · cases h
theorem sil_of {f : Int64 → Int32 → Option Value} {st st' : List Value} (h : sil f st = some st') : ∃ x y v r, st = .int y :: .long x :: r ∧ f x y = some v ∧ st' = v :: r := by
  unfold sil at h
  split at h
  · obtain ⟨v, h1, h2⟩ := Option.map_eq_some_iff.mp h
    exact ⟨_, _, v, _, rfl, h1, h2.symm⟩
  · cases h
theorem s1i_of {f : Int32 → Value} {st st' : List Value} (h : s1i f st = some st') : ∃ x r, st = .int x :: r ∧ st' = f x :: r := by
  unfold s1i at h
  split at h
  · cases h; exact ⟨_, _, rfl, rfl⟩
  · cases h
theorem s1l_of {f : Int64 → Value} {st st' : List Value} (h : s1l f st = some st') : ∃ x r, st = .long x :: r ∧ st' = f x :: r := by
  unfold s1l at h
  split at h
  · cases h; exact ⟨_, _, rfl, rfl⟩
  · cases h
set_option maxHeartbeats 4000000 in
theorem s_pure (hx : p.tables.exec = Jvm.exec) (hb : c.code = cc) {ins : Instr} {st st' : List Value} (h : sPure ins st = some st') (hdg : decode cc pc = .ok (ins, sLen ins))
    (kk : W p l e R s m args below meth c H locs cells slots Q (F0 m (pc + sLen ins) ls (rS σ st'))) : W p l e R s m args below meth c H locs cells slots Q (F0 m pc ls (rS σ st)) := by
  unfold sPure at h
  split at h
  case h_1 n => cases h; exact lv_iconst hx hb hdg rfl kk
  case h_2 n => cases h; exact lv_bipush hx hb hdg rfl kk
  case h_3 n => cases h; exact lv_sipush hx hb hdg rfl kk
  case h_4 n => cases h; exact lv_lconst hx hb hdg rfl kk
  case h_5 => cases h; exact lv_null hx hb hdg kk
  case h_6 => obtain ⟨x, y, v, r, rfl, h1, rfl⟩ := s2i_of h; cases h1; exact lv_iadd hx hb hdg kk
  case h_7 => obtain ⟨x, y, v, r, rfl, h1, rfl⟩ := s2i_of h; cases h1; exact lv_isub hx hb hdg kk
  case h_8 => obtain ⟨x, y, v, r, rfl, h1, rfl⟩ := s2i_of h; cases h1; exact lv_imul hx hb hdg kk
  case h_9 => obtain ⟨x, y, v, r, rfl, h1, rfl⟩ := s2i_of h; cases h1; exact lv_iand hx hb hdg kk
  case h_10 => obtain ⟨x, y, v, r, rfl, h1, rfl⟩ := s2i_of h; cases h1; exact lv_ior hx hb hdg kk
  case h_11 => obtain ⟨x, y, v, r, rfl, h1, rfl⟩ := s2i_of h; cases h1; exact lv_ixor hx hb hdg kk
  case h_12 =>
    obtain ⟨x, y, v, r, rfl, h1, rfl⟩ := s2i_of h
    by_cases h0 : y = 0
    · rw [if_pos h0] at h1; cases h1
    · rw [if_neg h0] at h1; cases h1; exact lv_idiv hx hb hdg h0 kk
  case h_13 =>
    obtain ⟨x, y, v, r, rfl, h1, rfl⟩ := s2i_of h
    by_cases h0 : y = 0
    · rw [if_pos h0] at h1; cases h1
    · rw [if_neg h0] at h1; cases h1; exact lv_irem hx hb hdg h0 kk
  case h_14 => obtain ⟨x, r, rfl, rfl⟩ := s1i_of h; exact lv_ineg hx hb hdg kk
  case h_15 => obtain ⟨x, y, v, r, rfl, h1, rfl⟩ := s2i_of h; cases h1; exact lv_ishl hx hb hdg kk
  case h_16 => obtain ⟨x, y, v, r, rfl, h1, rfl⟩ := s2i_of h; cases h1; exact lv_ishr hx hb hdg kk
  case h_17 => obtain ⟨x, y, v, r, rfl, h1, rfl⟩ := s2l_of h; cases h1; exact lv_ladd hx hb hdg kk
  case h_18 => obtain ⟨x, y, v, r, rfl, h1, rfl⟩ := s2l_of h; cases h1; exact lv_lsub hx hb hdg kk
  case h_19 => obtain ⟨x, y, v, r, rfl, h1, rfl⟩ := s2l_of h; cases h1; exact lv_land hx hb hdg kk
  case h_20 => obtain ⟨x, y, v, r, rfl, h1, rfl⟩ := s2l_of h; cases h1; exact lv_lor hx hb hdg kk
  case h_21 => obtain ⟨x, y, v, r, rfl, h1, rfl⟩ := s2l_of h; cases h1; exact lv_lxor hx hb hdg kk
  case h_22 => obtain ⟨x, r, rfl, rfl⟩ := s1l_of h; exact lv_lneg hx hb hdg kk
  case h_23 => obtain ⟨x, y, v, r, rfl, h1, rfl⟩ := sil_of h; cases h1; exact lv_lshl hx hb hdg rfl kk
  case h_24 => obtain ⟨x, y, v, r, rfl, h1, rfl⟩ := sil_of h; cases h1; exact lv_lshr hx hb hdg rfl kk
  case h_25 => obtain ⟨x, y, v, r, rfl, h1, rfl⟩ := sil_of h; cases h1; exact lv_lushr hx hb hdg rfl kk
  case h_26 => obtain ⟨x, y, v, r, rfl, h1, rfl⟩ := s2l_of h; cases h1; exact W.lcmp hx hb hdg kk
  case h_27 => obtain ⟨x, r, rfl, rfl⟩ := s1i_of h; exact lv_i2l hx hb hdg rfl kk
  case h_28 => obtain ⟨x, r, rfl, rfl⟩ := s1l_of h; exact lv_l2i hx hb hdg rfl kk
  case h_29 => obtain ⟨x, r, rfl, rfl⟩ := s1i_of h; exact lv_i2b hx hb hdg rfl kk
  case h_30 => obtain ⟨x, r, rfl, rfl⟩ := s1i_of h; exact lv_i2s hx hb hdg rfl kk
  case h_31 => obtain ⟨x, r, rfl, rfl⟩ := s1i_of h; exact lv_i2c hx hb hdg rfl kk
  case h_32 =>
    split at h
    · split at h
      · rename_i hc
        cases h
        exact lv_dup hx hb hdg ((rV_cat σ _).trans hc) kk
      · cases h
    · cases h
  case h_33 =>
    split at h
    · split at h
      · rename_i hc
        cases h
        exact lv_dup_x1 hx hb hdg ((rV_cat σ _).trans hc.1) ((rV_cat σ _).trans hc.2) kk
      · cases h
    · cases h
  case h_34 =>
    split at h
    · split at h
      · rename_i hc
        cases h
        exact lv_dup2_11 hx hb hdg ((rV_cat σ _).trans hc.1) ((rV_cat σ _).trans hc.2) kk
      · cases h
    · cases h
  case h_35 =>
    split at h
    · split at h
      · rename_i hc
        cases h
        exact lv_pop hx hb hdg ((rV_cat σ _).trans hc) kk
      · cases h
    · cases h
  case h_36 =>
    split at h
    · split at h
      · rename_i hc
        cases h
        exact lv_pop2_2 hx hb hdg ((rV_cat σ _).trans hc) kk
      · cases h
    · cases h
  case h_37 => cases h
theorem sLdI_of {L L' : sLo} {i : Nat} {st st' : List Value} (h : sLdI L i st = some (L', st')) : ∃ x, L[i]? = some (some (.int x)) ∧ L' = L ∧ st' = .int x :: st := by
  unfold sLdI at h
  split at h
  · rename_i x hx; cases h; exact ⟨x, hx, rfl, rfl⟩
  · cases h
theorem sLdL_of {L L' : sLo} {i : Nat} {st st' : List Value} (h : sLdL L i st = some (L', st')) : ∃ x, L[i]? = some (some (.long x)) ∧ L' = L ∧ st' = .long x :: st := by
  unfold sLdL at h
  split at h
  · rename_i x hx; cases h; exact ⟨x, hx, rfl, rfl⟩
  · cases h
theorem sLdA_of {L L' : sLo} {i : Nat} {st st' : List Value} (h : sLdA L i st = some (L', st')) : (∃ x, L[i]? = some (some (.ref x)) ∧ L' = L ∧ st' = .ref x :: st) ∨ (L[i]? = some (some .null) ∧ L' = L ∧ st' = .null :: st) := by
  unfold sLdA at h
  split at h
  · rename_i x hx; cases h; exact Or.inl ⟨x, hx, rfl, rfl⟩
  · rename_i hx; cases h; exact Or.inr ⟨hx, rfl, rfl⟩
  · cases h
/-- the locals hold what the simple ones say -/
def sLs (σ : Nat → Nat) (nL : Nat) (L : sLo) (ls : Array Slot) : Prop := L.length = nL ∧ sNoD L ∧ lv_has ls nL (sEnt σ L)
set_option maxHeartbeats 4000000 in
theorem s_loc (hx : p.tables.exec = Jvm.exec) (hb : c.code = cc) {ins : Instr} {nL : Nat} {L L' : sLo} {st st' : List Value} (hl : sLs σ nL L ls) (h : sLoc ins L st = some (L', st')) (hdg : decode cc pc = .ok (ins, sLen ins))
    (kk : ∀ ls' : Array Slot, sLs σ nL L' ls' → W p l e R s m args below meth c H locs cells slots Q (F0 m (pc + sLen ins) ls' (rS σ st'))) : W p l e R s m args below meth c H locs cells slots Q (F0 m pc ls (rS σ st)) := by
  obtain ⟨hn, hd, hv⟩ := hl
  unfold sLoc at h
  split at h
  case h_1 i => obtain ⟨x, h1, rfl, rfl⟩ := sLdI_of h; exact lv_iload hx hb hdg (sEnt_at hv h1) (kk _ ⟨hn, hd, hv⟩)
  case h_2 i => obtain ⟨x, h1, rfl, rfl⟩ := sLdI_of h; exact lv_iload_n hx hb hdg rfl (sEnt_at hv h1) (kk _ ⟨hn, hd, hv⟩)
  case h_3 i => obtain ⟨x, h1, rfl, rfl⟩ := sLdL_of h; exact lv_lload hx hb hdg (sEnt_at hv h1) (kk _ ⟨hn, hd, hv⟩)
  case h_4 i => obtain ⟨x, h1, rfl, rfl⟩ := sLdL_of h; exact lv_lload_n hx hb hdg rfl (sEnt_at hv h1) (kk _ ⟨hn, hd, hv⟩)
  case h_5 i =>
    rcases sLdA_of h with ⟨x, h1, rfl, rfl⟩ | ⟨h1, rfl, rfl⟩
    · exact lv_aload hx hb hdg (sEnt_at hv h1) (kk _ ⟨hn, hd, hv⟩)
    · exact lv_aloadN hx hb hdg (sEnt_at hv h1) (kk _ ⟨hn, hd, hv⟩)
  case h_6 i =>
    rcases sLdA_of h with ⟨x, h1, rfl, rfl⟩ | ⟨h1, rfl, rfl⟩
    · exact lv_aload_n hx hb hdg rfl (sEnt_at hv h1) (kk _ ⟨hn, hd, hv⟩)
    · exact lv_aload_nN hx hb hdg rfl (sEnt_at hv h1) (kk _ ⟨hn, hd, hv⟩)
  case h_7 i =>
    unfold sStI at h
    split at h
    · split at h
      · rename_i hi
        cases h
        exact lv_istore hx hb hdg hv (hn ▸ hi) rfl fun ls' h' => kk ls' ⟨(sPut_len _ _ _).trans hn, sNoD_put hd _ (fun _ q => by cases q), sPut_has hd h'⟩
      · cases h
    · cases h
  case h_8 i =>
    unfold sStI at h
    split at h
    · split at h
      · rename_i hi
        cases h
        exact lv_istore_n hx hb hdg rfl hv (hn ▸ hi) rfl fun ls' h' => kk ls' ⟨(sPut_len _ _ _).trans hn, sNoD_put hd _ (fun _ q => by cases q), sPut_has hd h'⟩
      · cases h
    · cases h
  case h_9 i =>
    unfold sStL at h
    split at h
    · split at h
      · rename_i hi
        cases h
        exact lv_lstore hx hb hdg hv (hn ▸ hi) rfl fun ls' h' => kk ls' ⟨(sPutL_len _ _ _).trans hn, sNoD_putL hd _ (fun _ q => by cases q), sPutL_has hd h'⟩
      · cases h
    · cases h
  case h_10 i =>
    unfold sStL at h
    split at h
    · split at h
      · rename_i hi
        cases h
        exact lv_lstore_n hx hb hdg rfl hv (hn ▸ hi) rfl fun ls' h' => kk ls' ⟨(sPutL_len _ _ _).trans hn, sNoD_putL hd _ (fun _ q => by cases q), sPutL_has hd h'⟩
      · cases h
    · cases h
  case h_11 i =>
    unfold sStA at h
    split at h
    · split at h
      · rename_i hi
        cases h
        exact lv_astore hx hb hdg hv (hn ▸ hi) rfl fun ls' h' => kk ls' ⟨(sPut_len _ _ _).trans hn, sNoD_put hd _ (fun _ q => by cases q), sPut_has (v := .ref _) hd h'⟩
      · cases h
    · split at h
      · rename_i hi
        cases h
        exact lv_astoreN hx hb hdg hv (hn ▸ hi) rfl fun ls' h' => kk ls' ⟨(sPut_len _ _ _).trans hn, sNoD_put hd _ (fun _ q => by cases q), sPut_has (v := .null) hd h'⟩
      · cases h
    · cases h
  case h_12 i =>
    unfold sStA at h
    split at h
    · split at h
      · rename_i hi
        cases h
        exact lv_astore_n hx hb hdg rfl hv (hn ▸ hi) rfl fun ls' h' => kk ls' ⟨(sPut_len _ _ _).trans hn, sNoD_put hd _ (fun _ q => by cases q), sPut_has (v := .ref _) hd h'⟩
      · cases h
    · split at h
      · rename_i hi
        cases h
        exact lv_astore_nN hx hb hdg rfl hv (hn ▸ hi) rfl fun ls' h' => kk ls' ⟨(sPut_len _ _ _).trans hn, sNoD_put hd _ (fun _ q => by cases q), sPut_has (v := .null) hd h'⟩
      · cases h
    · cases h
  case h_13 i n =>
    unfold sInc at h
    split at h
    · rename_i x h1
      cases h
      have hi : i < nL := by rw [← hn]; exact (List.getElem?_eq_some_iff.mp h1).1
      obtain ⟨k, hk⟩ := List.getElem?_of_mem (sEnt_mem (σ := σ) (L := L) (q := (i, .int x)) |>.mpr ⟨_, h1, rfl⟩)
      exact lv_iinc hx hb hdg hv hk rfl hi rfl fun ls' h' => kk ls' ⟨(sPut_len _ _ _).trans hn, sNoD_put hd _ (fun _ q => by cases q), sPut_has (v := .int _) hd h'⟩
    · cases h
  case h_14 => cases h
end SND
