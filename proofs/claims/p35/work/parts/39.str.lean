/-! ===== length and charAt of the words, as contracts ===== -/
theorem bIn_word {h : sHp} {i p : Nat} (hH : bH h) (hi : i < 7) (q : bIn h (400 + i) p) : p = 2000000 + i := by
  rcases q with ⟨c, h1, h2⟩ | ⟨e, -⟩ | ⟨-, e⟩
  · obtain ⟨ct, h3, h4⟩ := hH.2.1 p c h1
    rcases bKK_cases h2 with e | ⟨e, -⟩
    · rw [e] at h3
      have := bGam_lt h3
      omega
    · omega
  · omega
  · omega
theorem b_itf2 {i : Nat} (hi : i < 7) : (2000000 : Nat) ≤ 2000000 + i ∧ 2000000 + i < 2000007 := by omega
theorem s_len_at {i : Nat} (hi : i < 7) (h : sHp) : sCall 2 0 300 [.ref (2000000 + i)] h = some (some (.int (Int32.ofNat (sTxL.getD i 0))), h) := by
  rw [sCall, if_pos (Nat.le_refl _)]
  unfold sStC
  dsimp only
  rw [if_pos ⟨rfl, Nat.le_refl _, (b_itf2 hi).1, (b_itf2 hi).2⟩, Nat.add_sub_cancel_left]
theorem s_chr_at {i : Nat} (hi : i < 7) (h : sHp) {x : Int32} (hx : ¬ (x < 0 ∨ sTxL.getD i 0 ≤ x.toNatClampNeg)) : sCall 4 0 301 [.ref (2000000 + i), .int x] h = some (some (.int (sTxC i x.toNatClampNeg)), h) := by
  rw [sCall, if_pos (by decide)]
  unfold sStC
  dsimp only
  rw [Nat.add_sub_cancel_left, if_pos ⟨rfl, Nat.le_refl _, b_itf2 hi, hx⟩]
theorem ch_len {i : Nat} {n : Int} (hi : i < 7) (hn : (Int32.ofNat (sTxL.getD i 0)).toInt = n) : bHolds (300, 2, [.inr (2, 400 + i)], [], 0, 0, [(some (.inl (n, n)), [])]) := by
  intro h vs hH ht hO
  rcases vs with _ | ⟨v, _ | ⟨u, vs⟩⟩
  · exact False.elim ht
  · obtain ⟨⟨p, rfl, hp⟩, -⟩ := ht
    have hp := bIn_word hH hi hp
    subst hp
    exact ⟨0, _, h, s_len_at hi h, hH, bFr_refl _ _, _, List.mem_cons_self, ⟨_, rfl, _, rfl, by rw [hn]; exact Int.le_refl _, by rw [hn]; exact Int.le_refl _⟩, fun e he => by cases he⟩
  · exact False.elim ht.2
theorem s_let : ∀ i, i < 7 → ∀ j, j < sTxL.getD i 0 → 0 ≤ (sTxC i j).toInt ∧ (sTxC i j).toInt ≤ 127 := by decide +kernel
theorem ch_chr {i : Nat} {n : Int} (hi : i < 7) (hn : ((sTxL.getD i 0 : Nat) : Int) = n + 1) : bHolds (301, 4, [.inr (2, 400 + i), .inl (0, n)], [], 0, 0, [(some (.inl (0, 127)), [])]) := by
  intro h vs hH ht hO
  rcases vs with _ | ⟨v, _ | ⟨u, _ | ⟨z, vs⟩⟩⟩
  · exact False.elim ht
  · exact False.elim ht.2
  · obtain ⟨⟨p, rfl, hp⟩, ⟨x, rfl, x1, x2⟩, -⟩ := ht
    have hp := bIn_word hH hi hp
    subst hp
    have e : (x.toNatClampNeg : Int) = x.toInt := by
      show ((x.toInt.toNat : Nat) : Int) = x.toInt
      omega
    have hx : ¬ (x < 0 ∨ sTxL.getD i 0 ≤ x.toNatClampNeg) := by
      intro z
      rcases z with z | z
      · have := Int32.lt_iff_toInt_lt.mp z
        have e0 : (0 : Int32).toInt = 0 := rfl
        omega
      · omega
    obtain ⟨l1, l2⟩ := s_let i hi x.toNatClampNeg (by omega)
    exact ⟨0, _, h, s_chr_at hi h hx, hH, bFr_refl _ _, _, List.mem_cons_self, ⟨_, rfl, _, rfl, l1, l2⟩, fun e he => by cases he⟩
  · exact False.elim ht.2.2
def cn_S_len_0 : bCn := (300, 2, [.inr (2, 400)], [], 0x0, 0, [(some (.inl (.ofNat 4, .ofNat 4)), [])])
theorem ch_S_len_0 : bHolds cn_S_len_0 := ch_len (i := 0) (n := 4) (by decide) (by decide)
def cn_S_chr_0 : bCn := (301, 4, [.inr (2, 400), .inl (.ofNat 0, .ofNat 3)], [], 0x0, 0, [(some (.inl (.ofNat 0, .ofNat 127)), [])])
theorem ch_S_chr_0 : bHolds cn_S_chr_0 := ch_chr (i := 0) (n := 3) (by decide) (by decide)
def cn_S_len_1 : bCn := (300, 2, [.inr (2, 401)], [], 0x0, 0, [(some (.inl (.ofNat 4, .ofNat 4)), [])])
theorem ch_S_len_1 : bHolds cn_S_len_1 := ch_len (i := 1) (n := 4) (by decide) (by decide)
def cn_S_chr_1 : bCn := (301, 4, [.inr (2, 401), .inl (.ofNat 0, .ofNat 3)], [], 0x0, 0, [(some (.inl (.ofNat 0, .ofNat 127)), [])])
theorem ch_S_chr_1 : bHolds cn_S_chr_1 := ch_chr (i := 1) (n := 3) (by decide) (by decide)
def cn_S_len_2 : bCn := (300, 2, [.inr (2, 402)], [], 0x0, 0, [(some (.inl (.ofNat 4, .ofNat 4)), [])])
theorem ch_S_len_2 : bHolds cn_S_len_2 := ch_len (i := 2) (n := 4) (by decide) (by decide)
def cn_S_chr_2 : bCn := (301, 4, [.inr (2, 402), .inl (.ofNat 0, .ofNat 3)], [], 0x0, 0, [(some (.inl (.ofNat 0, .ofNat 127)), [])])
theorem ch_S_chr_2 : bHolds cn_S_chr_2 := ch_chr (i := 2) (n := 3) (by decide) (by decide)
def cn_S_len_3 : bCn := (300, 2, [.inr (2, 403)], [], 0x0, 0, [(some (.inl (.ofNat 4, .ofNat 4)), [])])
theorem ch_S_len_3 : bHolds cn_S_len_3 := ch_len (i := 3) (n := 4) (by decide) (by decide)
def cn_S_chr_3 : bCn := (301, 4, [.inr (2, 403), .inl (.ofNat 0, .ofNat 3)], [], 0x0, 0, [(some (.inl (.ofNat 0, .ofNat 127)), [])])
theorem ch_S_chr_3 : bHolds cn_S_chr_3 := ch_chr (i := 3) (n := 3) (by decide) (by decide)
def cn_S_len_4 : bCn := (300, 2, [.inr (2, 404)], [], 0x0, 0, [(some (.inl (.ofNat 3, .ofNat 3)), [])])
theorem ch_S_len_4 : bHolds cn_S_len_4 := ch_len (i := 4) (n := 3) (by decide) (by decide)
def cn_S_chr_4 : bCn := (301, 4, [.inr (2, 404), .inl (.ofNat 0, .ofNat 2)], [], 0x0, 0, [(some (.inl (.ofNat 0, .ofNat 127)), [])])
theorem ch_S_chr_4 : bHolds cn_S_chr_4 := ch_chr (i := 4) (n := 2) (by decide) (by decide)
def cn_S_len_5 : bCn := (300, 2, [.inr (2, 405)], [], 0x0, 0, [(some (.inl (.ofNat 5, .ofNat 5)), [])])
theorem ch_S_len_5 : bHolds cn_S_len_5 := ch_len (i := 5) (n := 5) (by decide) (by decide)
def cn_S_chr_5 : bCn := (301, 4, [.inr (2, 405), .inl (.ofNat 0, .ofNat 4)], [], 0x0, 0, [(some (.inl (.ofNat 0, .ofNat 127)), [])])
theorem ch_S_chr_5 : bHolds cn_S_chr_5 := ch_chr (i := 5) (n := 4) (by decide) (by decide)
def cn_S_len_6 : bCn := (300, 2, [.inr (2, 406)], [], 0x0, 0, [(some (.inl (.ofNat 4, .ofNat 4)), [])])
theorem ch_S_len_6 : bHolds cn_S_len_6 := ch_len (i := 6) (n := 4) (by decide) (by decide)
def cn_S_chr_6 : bCn := (301, 4, [.inr (2, 406), .inl (.ofNat 0, .ofNat 3)], [], 0x0, 0, [(some (.inl (.ofNat 0, .ofNat 127)), [])])
theorem ch_S_chr_6 : bHolds cn_S_chr_6 := ch_chr (i := 6) (n := 3) (by decide) (by decide)
