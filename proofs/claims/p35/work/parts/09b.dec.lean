/-! ===== an instruction read off the head of the bytes ===== -/
def sB1 (n : Nat) (bs : List UInt8) : Bool := match bs with
  | a :: _ => a.toNat == n
  | _ => false
def sB2 (n k : Nat) (bs : List UInt8) : Bool := match bs with
  | a :: b :: _ => a.toNat == n && b.toNat == k
  | _ => false
def sB2s (n : Nat) (v : Int) (bs : List UInt8) : Bool := match bs with
  | a :: b :: _ => a.toNat == n && decide (Reader.signed 8 b.toNat = v)
  | _ => false
def sB3 (n k : Nat) (bs : List UInt8) : Bool := match bs with
  | a :: b :: c :: _ => a.toNat == n && b.toNat * 256 + c.toNat == k
  | _ => false
def sB3s (n : Nat) (v : Int) (bs : List UInt8) : Bool := match bs with
  | a :: b :: c :: _ => a.toNat == n && decide (Reader.signed 16 (b.toNat * 256 + c.toNat) = v)
  | _ => false
def sBii (n k : Nat) (v : Int) (bs : List UInt8) : Bool := match bs with
  | a :: b :: c :: _ => a.toNat == n && (b.toNat == k && decide (Reader.signed 8 c.toNat = v))
  | _ => false
theorem sRd1 {code : ByteArray} {pc : Nat} {b : UInt8} {t : List UInt8} (h : code.data.toList.drop pc = b :: t) : (Reader.u1 : Decoder Nat) code pc = .ok (b.toNat, pc + 1) := by
  have h0 : code.data.toList[pc]? = some b := by
    have := congrArg (fun l => l[0]?) h
    simpa [List.getElem?_drop] using this
  obtain ⟨hl, hb⟩ := List.getElem?_eq_some_iff.mp h0
  have hs : pc < code.size := by
    rw [Array.length_toList] at hl
    exact hl
  have e : (Reader.u1 : Decoder Nat) code pc = (if h : pc < code.size then (do set (pc + 1); pure (code[pc]'h).toNat : Decoder Nat) else throw (HasTruncated.truncated pc) : Decoder Nat) code pc := rfl
  rw [e, dif_pos hs]
  have e2 : code[pc]'hs = b := by
    rw [← hb]
    obtain ⟨⟨l⟩⟩ := code
    rfl
  show Except.ok ((code[pc]'hs).toNat, pc + 1) = _
  rw [e2]
theorem sRdT {code : ByteArray} {pc : Nat} {b : UInt8} {t : List UInt8} (h : code.data.toList.drop pc = b :: t) : code.data.toList.drop (pc + 1) = t := by
  rw [← List.drop_drop, h]
  rfl
theorem sRdB {α β : Type} {m : Decoder α} {f : α → Decoder β} {code : ByteArray} {pc p' : Nat} {a : α} (h : m code pc = .ok (a, p')) : (m >>= f) code pc = f a code p' := by
  show Except.bind (m code pc) _ = _
  rw [h]
  rfl
theorem sRdM {α β : Type} {m : Decoder α} {f : α → β} {code : ByteArray} {pc p' : Nat} {a : α} (h : m code pc = .ok (a, p')) : (f <$> m) code pc = .ok (f a, p') := by
  show Except.bind (m code pc) (fun x => Except.ok (f x.1, x.2)) = _
  rw [h]
  rfl
theorem sRd2 {code : ByteArray} {pc : Nat} {b c : UInt8} {t : List UInt8} (h : code.data.toList.drop pc = b :: c :: t) : (Reader.u2 : Decoder Nat) code pc = .ok (b.toNat * 256 + c.toNat, pc + 2) := by
  have e : (Reader.u2 : Decoder Nat) = (Reader.u1 >>= fun hi => Reader.u1 >>= fun lo => pure (hi * 256 + lo)) := rfl
  rw [e, sRdB (sRd1 h), sRdB (sRd1 (sRdT h))]
  rfl
theorem sDc {code : ByteArray} {pc p' : Nat} {i : Instr} (h : Decoder.instr pc code pc = .ok (i, p')) : decode code pc = .ok (i, p' - pc) := by
  unfold decode
  show Except.bind (Decoder.instr pc code pc) _ = _
  rw [h]
  rfl
section DEC
variable {code : ByteArray} {pc n k : Nat} {v : Int} {I : Instr} {g : Nat → Decoder Instr}
theorem sD1 (hg : Decoder.instr pc = (Reader.u1 >>= g : Decoder Instr)) (h : sB1 n (code.data.toList.drop pc) = true) (hn : g n = (Pure.pure I : Decoder Instr)) : decode code pc = .ok (I, 1) := by
  unfold sB1 at h
  split at h
  · rename_i a t hl
    rw [beq_iff_eq] at h
    have hr : Decoder.instr pc code pc = .ok (I, pc + 1) := by
      rw [hg, sRdB (sRd1 hl), h, hn]
      rfl
    rw [sDc hr, show pc + 1 - pc = 1 by omega]
  · cases h
theorem sD2 {f : Nat → Decoder Instr} (hg : Decoder.instr pc = (Reader.u1 >>= g : Decoder Instr)) (h : sB2 n k (code.data.toList.drop pc) = true) (hn : g n = (Reader.u1 >>= f : Decoder Instr)) (hf : f k = (Pure.pure I : Decoder Instr)) : decode code pc = .ok (I, 2) := by
  unfold sB2 at h
  split at h
  · rename_i a b t hl
    rw [Bool.and_eq_true, beq_iff_eq, beq_iff_eq] at h
    have hr : Decoder.instr pc code pc = .ok (I, pc + 2) := by
      rw [hg, sRdB (sRd1 hl), h.1, hn, sRdB (sRd1 (sRdT hl)), h.2, hf]
      rfl
    rw [sDc hr, show pc + 2 - pc = 2 by omega]
  · cases h
theorem sD2s {f : Int → Decoder Instr} (hg : Decoder.instr pc = (Reader.u1 >>= g : Decoder Instr)) (h : sB2s n v (code.data.toList.drop pc) = true) (hn : g n = (Reader.s1 >>= f : Decoder Instr)) (hf : f v = (Pure.pure I : Decoder Instr)) : decode code pc = .ok (I, 2) := by
  unfold sB2s at h
  split at h
  · rename_i a b t hl
    rw [Bool.and_eq_true, beq_iff_eq, decide_eq_true_eq] at h
    have hr : Decoder.instr pc code pc = .ok (I, pc + 2) := by
      rw [hg, sRdB (sRd1 hl), h.1, hn, sRdB (m := Reader.s1) (sRdM (sRd1 (sRdT hl))), h.2, hf]
      rfl
    rw [sDc hr, show pc + 2 - pc = 2 by omega]
  · cases h
theorem sD3 {f : Nat → Decoder Instr} (hg : Decoder.instr pc = (Reader.u1 >>= g : Decoder Instr)) (h : sB3 n k (code.data.toList.drop pc) = true) (hn : g n = (Reader.u2 >>= f : Decoder Instr)) (hf : f k = (Pure.pure I : Decoder Instr)) : decode code pc = .ok (I, 3) := by
  unfold sB3 at h
  split at h
  · rename_i a b c t hl
    rw [Bool.and_eq_true, beq_iff_eq, beq_iff_eq] at h
    have hr : Decoder.instr pc code pc = .ok (I, pc + 3) := by
      rw [hg, sRdB (sRd1 hl), h.1, hn, sRdB (sRd2 (sRdT hl)), h.2, hf]
      rfl
    rw [sDc hr, show pc + 3 - pc = 3 by omega]
  · cases h
theorem sD3s {f : Int → Decoder Instr} (hg : Decoder.instr pc = (Reader.u1 >>= g : Decoder Instr)) (h : sB3s n v (code.data.toList.drop pc) = true) (hn : g n = (Reader.s2 >>= f : Decoder Instr)) (hf : f v = (Pure.pure I : Decoder Instr)) : decode code pc = .ok (I, 3) := by
  unfold sB3s at h
  split at h
  · rename_i a b c t hl
    rw [Bool.and_eq_true, beq_iff_eq, decide_eq_true_eq] at h
    have hr : Decoder.instr pc code pc = .ok (I, pc + 3) := by
      rw [hg, sRdB (sRd1 hl), h.1, hn, sRdB (m := Reader.s2) (sRdM (sRd2 (sRdT hl))), h.2, hf]
      rfl
    rw [sDc hr, show pc + 3 - pc = 3 by omega]
  · cases h
theorem sDii {f : Nat → Int → Decoder Instr} (hg : Decoder.instr pc = (Reader.u1 >>= g : Decoder Instr)) (h : sBii n k v (code.data.toList.drop pc) = true) (hn : g n = (Reader.u1 >>= fun x => Reader.s1 >>= f x : Decoder Instr)) (hf : f k v = (Pure.pure I : Decoder Instr)) : decode code pc = .ok (I, 3) := by
  unfold sBii at h
  split at h
  · rename_i a b c t hl
    simp only [Bool.and_eq_true, beq_iff_eq, decide_eq_true_eq] at h
    have hr : Decoder.instr pc code pc = .ok (I, pc + 3) := by
      rw [hg, sRdB (sRd1 hl), h.1, hn, sRdB (sRd1 (sRdT hl)), sRdB (m := Reader.s1) (sRdM (sRd1 (sRdT (sRdT hl)))), h.2.1, h.2.2, hf]
      rfl
    rw [sDc hr, show pc + 3 - pc = 3 by omega]
  · cases h
end DEC
def sCn (c : Jvm.ClassFile.Cond) : Nat := match c with
  | .eq => 0
  | .ne => 1
  | .lt => 2
  | .ge => 3
  | .gt => 4
  | .le => 5
def sBy (code : ByteArray) (pc : Nat) (i : Instr) (L : Nat) (bs : List UInt8) : Bool := match i with
  | .aconst_null => L == 1 && sB1 1 bs
  | .iaload => L == 1 && sB1 46 bs
  | .laload => L == 1 && sB1 47 bs
  | .aaload => L == 1 && sB1 50 bs
  | .baload => L == 1 && sB1 51 bs
  | .iastore => L == 1 && sB1 79 bs
  | .lastore => L == 1 && sB1 80 bs
  | .aastore => L == 1 && sB1 83 bs
  | .bastore => L == 1 && sB1 84 bs
  | .pop => L == 1 && sB1 87 bs
  | .pop2 => L == 1 && sB1 88 bs
  | .dup => L == 1 && sB1 89 bs
  | .dup_x1 => L == 1 && sB1 90 bs
  | .dup2 => L == 1 && sB1 92 bs
  | .iadd => L == 1 && sB1 96 bs
  | .ladd => L == 1 && sB1 97 bs
  | .isub => L == 1 && sB1 100 bs
  | .lsub => L == 1 && sB1 101 bs
  | .imul => L == 1 && sB1 104 bs
  | .lmul => L == 1 && sB1 105 bs
  | .idiv => L == 1 && sB1 108 bs
  | .ldiv => L == 1 && sB1 109 bs
  | .irem => L == 1 && sB1 112 bs
  | .lrem => L == 1 && sB1 113 bs
  | .ineg => L == 1 && sB1 116 bs
  | .lneg => L == 1 && sB1 117 bs
  | .ishl => L == 1 && sB1 120 bs
  | .lshl => L == 1 && sB1 121 bs
  | .ishr => L == 1 && sB1 122 bs
  | .lshr => L == 1 && sB1 123 bs
  | .iushr => L == 1 && sB1 124 bs
  | .lushr => L == 1 && sB1 125 bs
  | .iand => L == 1 && sB1 126 bs
  | .land => L == 1 && sB1 127 bs
  | .ior => L == 1 && sB1 128 bs
  | .lor => L == 1 && sB1 129 bs
  | .ixor => L == 1 && sB1 130 bs
  | .lxor => L == 1 && sB1 131 bs
  | .i2l => L == 1 && sB1 133 bs
  | .l2i => L == 1 && sB1 136 bs
  | .i2b => L == 1 && sB1 145 bs
  | .i2c => L == 1 && sB1 146 bs
  | .i2s => L == 1 && sB1 147 bs
  | .lcmp => L == 1 && sB1 148 bs
  | .ireturn => L == 1 && sB1 172 bs
  | .lreturn => L == 1 && sB1 173 bs
  | .areturn => L == 1 && sB1 176 bs
  | .return_ => L == 1 && sB1 177 bs
  | .arraylength => L == 1 && sB1 190 bs
  | .iload_n k => L == 1 && sB1 (26 + k.val) bs
  | .lload_n k => L == 1 && sB1 (30 + k.val) bs
  | .aload_n k => L == 1 && sB1 (42 + k.val) bs
  | .istore_n k => L == 1 && sB1 (59 + k.val) bs
  | .lstore_n k => L == 1 && sB1 (63 + k.val) bs
  | .astore_n k => L == 1 && sB1 (75 + k.val) bs
  | .lconst k => L == 1 && sB1 (9 + k.val) bs
  | .ldc k => L == 2 && sB2 18 k bs
  | .iload k => L == 2 && sB2 21 k bs
  | .lload k => L == 2 && sB2 22 k bs
  | .aload k => L == 2 && sB2 25 k bs
  | .istore k => L == 2 && sB2 54 k bs
  | .lstore k => L == 2 && sB2 55 k bs
  | .astore k => L == 2 && sB2 58 k bs
  | .newarray .boolean => L == 2 && sB2 188 4 bs
  | .newarray .byte => L == 2 && sB2 188 8 bs
  | .newarray .int => L == 2 && sB2 188 10 bs
  | .newarray .long => L == 2 && sB2 188 11 bs
  | .bipush v => L == 2 && sB2s 16 v bs
  | .ldc_w k => L == 3 && sB3 19 k bs
  | .ldc2_w k => L == 3 && sB3 20 k bs
  | .getfield k => L == 3 && sB3 180 k bs
  | .putfield k => L == 3 && sB3 181 k bs
  | .invokevirtual k => L == 3 && sB3 182 k bs
  | .invokespecial k => L == 3 && sB3 183 k bs
  | .invokestatic k => L == 3 && sB3 184 k bs
  | .new k => L == 3 && sB3 187 k bs
  | .anewarray k => L == 3 && sB3 189 k bs
  | .sipush v => L == 3 && sB3s 17 v bs
  | .goto v => L == 3 && sB3s 167 v bs
  | .ifnull v => L == 3 && sB3s 198 v bs
  | .ifnonnull v => L == 3 && sB3s 199 v bs
  | .ifCond c v => L == 3 && sB3s (153 + sCn c) v bs
  | .if_icmp c v => L == 3 && sB3s (159 + sCn c) v bs
  | .iinc k v => L == 3 && sBii 132 k v bs
  | .iconst v => L == 1 && (decide (-1 ≤ v) && (decide (v ≤ 5) && sB1 (v + 3).toNat bs))
  | i => decide (decode code pc = .ok (i, L))
theorem sBy_ic {code : ByteArray} {pc : Nat} {v : Int} (h1 : -1 ≤ v) (h2 : v ≤ 5) (h : sB1 (v + 3).toNat (code.data.toList.drop pc) = true) : decode code pc = .ok (.iconst v, 1) := by
  have h3 : v = -1 ∨ v = 0 ∨ v = 1 ∨ v = 2 ∨ v = 3 ∨ v = 4 ∨ v = 5 := by omega
  rcases h3 with e | e | e | e | e | e | e <;> subst e
  · exact sD1 rfl h rfl
  · exact sD1 rfl h rfl
  · exact sD1 rfl h rfl
  · exact sD1 rfl h rfl
  · exact sD1 rfl h rfl
  · exact sD1 rfl h rfl
  · exact sD1 rfl h rfl
theorem sBy_ok {code : ByteArray} {pc : Nat} {i : Instr} {L : Nat} (h : sBy code pc i L (code.data.toList.drop pc) = true) : decode code pc = .ok (i, L) := by
  unfold sBy at h
  split at h
  · rw [Bool.and_eq_true, beq_iff_eq] at h
    rw [h.1]
    exact sD1 rfl h.2 rfl
  · rw [Bool.and_eq_true, beq_iff_eq] at h
    rw [h.1]
    exact sD1 rfl h.2 rfl
  · rw [Bool.and_eq_true, beq_iff_eq] at h
    rw [h.1]
    exact sD1 rfl h.2 rfl
  · rw [Bool.and_eq_true, beq_iff_eq] at h
    rw [h.1]
    exact sD1 rfl h.2 rfl
  · rw [Bool.and_eq_true, beq_iff_eq] at h
    rw [h.1]
    exact sD1 rfl h.2 rfl
  · rw [Bool.and_eq_true, beq_iff_eq] at h
    rw [h.1]
    exact sD1 rfl h.2 rfl
  · rw [Bool.and_eq_true, beq_iff_eq] at h
    rw [h.1]
    exact sD1 rfl h.2 rfl
  · rw [Bool.and_eq_true, beq_iff_eq] at h
    rw [h.1]
    exact sD1 rfl h.2 rfl
  · rw [Bool.and_eq_true, beq_iff_eq] at h
    rw [h.1]
    exact sD1 rfl h.2 rfl
  · rw [Bool.and_eq_true, beq_iff_eq] at h
    rw [h.1]
    exact sD1 rfl h.2 rfl
  · rw [Bool.and_eq_true, beq_iff_eq] at h
    rw [h.1]
    exact sD1 rfl h.2 rfl
  · rw [Bool.and_eq_true, beq_iff_eq] at h
    rw [h.1]
    exact sD1 rfl h.2 rfl
  · rw [Bool.and_eq_true, beq_iff_eq] at h
    rw [h.1]
    exact sD1 rfl h.2 rfl
  · rw [Bool.and_eq_true, beq_iff_eq] at h
    rw [h.1]
    exact sD1 rfl h.2 rfl
  · rw [Bool.and_eq_true, beq_iff_eq] at h
    rw [h.1]
    exact sD1 rfl h.2 rfl
  · rw [Bool.and_eq_true, beq_iff_eq] at h
    rw [h.1]
    exact sD1 rfl h.2 rfl
  · rw [Bool.and_eq_true, beq_iff_eq] at h
    rw [h.1]
    exact sD1 rfl h.2 rfl
  · rw [Bool.and_eq_true, beq_iff_eq] at h
    rw [h.1]
    exact sD1 rfl h.2 rfl
  · rw [Bool.and_eq_true, beq_iff_eq] at h
    rw [h.1]
    exact sD1 rfl h.2 rfl
  · rw [Bool.and_eq_true, beq_iff_eq] at h
    rw [h.1]
    exact sD1 rfl h.2 rfl
  · rw [Bool.and_eq_true, beq_iff_eq] at h
    rw [h.1]
    exact sD1 rfl h.2 rfl
  · rw [Bool.and_eq_true, beq_iff_eq] at h
    rw [h.1]
    exact sD1 rfl h.2 rfl
  · rw [Bool.and_eq_true, beq_iff_eq] at h
    rw [h.1]
    exact sD1 rfl h.2 rfl
  · rw [Bool.and_eq_true, beq_iff_eq] at h
    rw [h.1]
    exact sD1 rfl h.2 rfl
  · rw [Bool.and_eq_true, beq_iff_eq] at h
    rw [h.1]
    exact sD1 rfl h.2 rfl
  · rw [Bool.and_eq_true, beq_iff_eq] at h
    rw [h.1]
    exact sD1 rfl h.2 rfl
  · rw [Bool.and_eq_true, beq_iff_eq] at h
    rw [h.1]
    exact sD1 rfl h.2 rfl
  · rw [Bool.and_eq_true, beq_iff_eq] at h
    rw [h.1]
    exact sD1 rfl h.2 rfl
  · rw [Bool.and_eq_true, beq_iff_eq] at h
    rw [h.1]
    exact sD1 rfl h.2 rfl
  · rw [Bool.and_eq_true, beq_iff_eq] at h
    rw [h.1]
    exact sD1 rfl h.2 rfl
  · rw [Bool.and_eq_true, beq_iff_eq] at h
    rw [h.1]
    exact sD1 rfl h.2 rfl
  · rw [Bool.and_eq_true, beq_iff_eq] at h
    rw [h.1]
    exact sD1 rfl h.2 rfl
  · rw [Bool.and_eq_true, beq_iff_eq] at h
    rw [h.1]
    exact sD1 rfl h.2 rfl
  · rw [Bool.and_eq_true, beq_iff_eq] at h
    rw [h.1]
    exact sD1 rfl h.2 rfl
  · rw [Bool.and_eq_true, beq_iff_eq] at h
    rw [h.1]
    exact sD1 rfl h.2 rfl
  · rw [Bool.and_eq_true, beq_iff_eq] at h
    rw [h.1]
    exact sD1 rfl h.2 rfl
  · rw [Bool.and_eq_true, beq_iff_eq] at h
    rw [h.1]
    exact sD1 rfl h.2 rfl
  · rw [Bool.and_eq_true, beq_iff_eq] at h
    rw [h.1]
    exact sD1 rfl h.2 rfl
  · rw [Bool.and_eq_true, beq_iff_eq] at h
    rw [h.1]
    exact sD1 rfl h.2 rfl
  · rw [Bool.and_eq_true, beq_iff_eq] at h
    rw [h.1]
    exact sD1 rfl h.2 rfl
  · rw [Bool.and_eq_true, beq_iff_eq] at h
    rw [h.1]
    exact sD1 rfl h.2 rfl
  · rw [Bool.and_eq_true, beq_iff_eq] at h
    rw [h.1]
    exact sD1 rfl h.2 rfl
  · rw [Bool.and_eq_true, beq_iff_eq] at h
    rw [h.1]
    exact sD1 rfl h.2 rfl
  · rw [Bool.and_eq_true, beq_iff_eq] at h
    rw [h.1]
    exact sD1 rfl h.2 rfl
  · rw [Bool.and_eq_true, beq_iff_eq] at h
    rw [h.1]
    exact sD1 rfl h.2 rfl
  · rw [Bool.and_eq_true, beq_iff_eq] at h
    rw [h.1]
    exact sD1 rfl h.2 rfl
  · rw [Bool.and_eq_true, beq_iff_eq] at h
    rw [h.1]
    exact sD1 rfl h.2 rfl
  · rw [Bool.and_eq_true, beq_iff_eq] at h
    rw [h.1]
    exact sD1 rfl h.2 rfl
  · rw [Bool.and_eq_true, beq_iff_eq] at h
    rw [h.1]
    exact sD1 rfl h.2 rfl
  · rename_i k
    rw [Bool.and_eq_true, beq_iff_eq] at h
    rw [h.1]
    have h2 := h.2
    clear h
    match k, h2 with
    | 0, h2 => exact sD1 rfl h2 rfl
    | 1, h2 => exact sD1 rfl h2 rfl
    | 2, h2 => exact sD1 rfl h2 rfl
    | 3, h2 => exact sD1 rfl h2 rfl
  · rename_i k
    rw [Bool.and_eq_true, beq_iff_eq] at h
    rw [h.1]
    have h2 := h.2
    clear h
    match k, h2 with
    | 0, h2 => exact sD1 rfl h2 rfl
    | 1, h2 => exact sD1 rfl h2 rfl
    | 2, h2 => exact sD1 rfl h2 rfl
    | 3, h2 => exact sD1 rfl h2 rfl
  · rename_i k
    rw [Bool.and_eq_true, beq_iff_eq] at h
    rw [h.1]
    have h2 := h.2
    clear h
    match k, h2 with
    | 0, h2 => exact sD1 rfl h2 rfl
    | 1, h2 => exact sD1 rfl h2 rfl
    | 2, h2 => exact sD1 rfl h2 rfl
    | 3, h2 => exact sD1 rfl h2 rfl
  · rename_i k
    rw [Bool.and_eq_true, beq_iff_eq] at h
    rw [h.1]
    have h2 := h.2
    clear h
    match k, h2 with
    | 0, h2 => exact sD1 rfl h2 rfl
    | 1, h2 => exact sD1 rfl h2 rfl
    | 2, h2 => exact sD1 rfl h2 rfl
    | 3, h2 => exact sD1 rfl h2 rfl
  · rename_i k
    rw [Bool.and_eq_true, beq_iff_eq] at h
    rw [h.1]
    have h2 := h.2
    clear h
    match k, h2 with
    | 0, h2 => exact sD1 rfl h2 rfl
    | 1, h2 => exact sD1 rfl h2 rfl
    | 2, h2 => exact sD1 rfl h2 rfl
    | 3, h2 => exact sD1 rfl h2 rfl
  · rename_i k
    rw [Bool.and_eq_true, beq_iff_eq] at h
    rw [h.1]
    have h2 := h.2
    clear h
    match k, h2 with
    | 0, h2 => exact sD1 rfl h2 rfl
    | 1, h2 => exact sD1 rfl h2 rfl
    | 2, h2 => exact sD1 rfl h2 rfl
    | 3, h2 => exact sD1 rfl h2 rfl
  · rename_i k
    rw [Bool.and_eq_true, beq_iff_eq] at h
    rw [h.1]
    have h2 := h.2
    clear h
    match k, h2 with
    | 0, h2 => exact sD1 rfl h2 rfl
    | 1, h2 => exact sD1 rfl h2 rfl
  · rw [Bool.and_eq_true, beq_iff_eq] at h
    rw [h.1]
    exact sD2 rfl h.2 rfl rfl
  · rw [Bool.and_eq_true, beq_iff_eq] at h
    rw [h.1]
    exact sD2 rfl h.2 rfl rfl
  · rw [Bool.and_eq_true, beq_iff_eq] at h
    rw [h.1]
    exact sD2 rfl h.2 rfl rfl
  · rw [Bool.and_eq_true, beq_iff_eq] at h
    rw [h.1]
    exact sD2 rfl h.2 rfl rfl
  · rw [Bool.and_eq_true, beq_iff_eq] at h
    rw [h.1]
    exact sD2 rfl h.2 rfl rfl
  · rw [Bool.and_eq_true, beq_iff_eq] at h
    rw [h.1]
    exact sD2 rfl h.2 rfl rfl
  · rw [Bool.and_eq_true, beq_iff_eq] at h
    rw [h.1]
    exact sD2 rfl h.2 rfl rfl
  · rw [Bool.and_eq_true, beq_iff_eq] at h
    rw [h.1]
    exact sD2 rfl h.2 rfl rfl
  · rw [Bool.and_eq_true, beq_iff_eq] at h
    rw [h.1]
    exact sD2 rfl h.2 rfl rfl
  · rw [Bool.and_eq_true, beq_iff_eq] at h
    rw [h.1]
    exact sD2 rfl h.2 rfl rfl
  · rw [Bool.and_eq_true, beq_iff_eq] at h
    rw [h.1]
    exact sD2 rfl h.2 rfl rfl
  · rw [Bool.and_eq_true, beq_iff_eq] at h
    rw [h.1]
    exact sD2s rfl h.2 rfl rfl
  · rw [Bool.and_eq_true, beq_iff_eq] at h
    rw [h.1]
    exact sD3 rfl h.2 rfl rfl
  · rw [Bool.and_eq_true, beq_iff_eq] at h
    rw [h.1]
    exact sD3 rfl h.2 rfl rfl
  · rw [Bool.and_eq_true, beq_iff_eq] at h
    rw [h.1]
    exact sD3 rfl h.2 rfl rfl
  · rw [Bool.and_eq_true, beq_iff_eq] at h
    rw [h.1]
    exact sD3 rfl h.2 rfl rfl
  · rw [Bool.and_eq_true, beq_iff_eq] at h
    rw [h.1]
    exact sD3 rfl h.2 rfl rfl
  · rw [Bool.and_eq_true, beq_iff_eq] at h
    rw [h.1]
    exact sD3 rfl h.2 rfl rfl
  · rw [Bool.and_eq_true, beq_iff_eq] at h
    rw [h.1]
    exact sD3 rfl h.2 rfl rfl
  · rw [Bool.and_eq_true, beq_iff_eq] at h
    rw [h.1]
    exact sD3 rfl h.2 rfl rfl
  · rw [Bool.and_eq_true, beq_iff_eq] at h
    rw [h.1]
    exact sD3 rfl h.2 rfl rfl
  · rw [Bool.and_eq_true, beq_iff_eq] at h
    rw [h.1]
    exact sD3s rfl h.2 rfl rfl
  · rw [Bool.and_eq_true, beq_iff_eq] at h
    rw [h.1]
    exact sD3s rfl h.2 rfl rfl
  · rw [Bool.and_eq_true, beq_iff_eq] at h
    rw [h.1]
    exact sD3s rfl h.2 rfl rfl
  · rw [Bool.and_eq_true, beq_iff_eq] at h
    rw [h.1]
    exact sD3s rfl h.2 rfl rfl
  · rename_i c v
    rw [Bool.and_eq_true, beq_iff_eq] at h
    rw [h.1]
    have h2 := h.2
    clear h
    cases c <;> exact sD3s rfl h2 rfl rfl
  · rename_i c v
    rw [Bool.and_eq_true, beq_iff_eq] at h
    rw [h.1]
    have h2 := h.2
    clear h
    cases c <;> exact sD3s rfl h2 rfl rfl
  · rw [Bool.and_eq_true, beq_iff_eq] at h
    rw [h.1]
    exact sDii rfl h.2 rfl rfl
  · simp only [Bool.and_eq_true, beq_iff_eq, decide_eq_true_eq] at h
    rw [h.1]
    exact sBy_ic h.2.1 h.2.2.1 h.2.2.2
  · exact of_decide_eq_true h
/-! ===== the rows along the bytes ===== -/
def sAdv : Nat → List UInt8 → (List UInt8 → Bool) → Bool
  | 0, bs, k => k bs
  | _ + 1, [], k => k []
  | n + 1, _ :: t, k => sAdv n t k
theorem sAdv_eq (n : Nat) (bs : List UInt8) (k : List UInt8 → Bool) : sAdv n bs k = k (bs.drop n) := by
  induction n generalizing bs with
  | zero => cases bs <;> rfl
  | succ n ih =>
    cases bs with
    | nil => rfl
    | cons a t => exact ih t
def sChkD (own nm : String) (code : ByteArray) (bs : List UInt8) (pc L : Nat) (ins : Instr) (r : List Nat) : Bool := (match ins with
  | .nop => true
  | _ => sBy code pc (sReal ins r) L bs && ((sSw ins || decide (L = sLen ins)) && sExt own nm ins r))
def sWk (own nm : String) (code : ByteArray) (bs : List UInt8) (p : Nat) (es : List sEt) : Bool := match es with
  | [] => true
  | (pc, L, ins, r) :: es => Nat.ble p pc && sAdv (pc - p) bs (fun b => sChkD own nm code b pc L ins r && sWk own nm code b pc es)
theorem sExt_nm {own nm : String} {ins : Instr} {r : List Nat} (h : sExt own "" ins r = true) : sExt own nm ins r = true := by
  cases ins
  case putfield k =>
    unfold sExt at h ⊢
    dsimp only at h ⊢
    split at h
    · rw [Bool.and_eq_true] at h ⊢
      refine ⟨h.1, ?_⟩
      have h9 := h.2
      unfold sChkF at h9 ⊢
      refine List.all_eq_true.mpr fun ci hci => ?_
      have h1 := List.all_eq_true.mp h9 ci hci
      dsimp only at h1 ⊢
      split
      · rename_i q hq
        rw [hq] at h1
        simp only [Bool.or_eq_true, Bool.and_eq_true, decide_eq_true_eq] at h1 ⊢
        rcases h1 with h1 | h1 | h1
        · exact Or.inl h1
        · exact Or.inr (Or.inl h1)
        · exact absurd h1.1 (by decide)
      · rfl
    · cases h
  all_goals exact h
theorem sChkD_ok {q : sMt} {own nm : String} {pc L : Nat} {ins : Instr} {r : List Nat} (h0 : (mY q).cls = own) (h1 : nm = "" ∨ nm = (mY q).name) (h : sChkD own nm (mC q) ((mC q).data.toList.drop pc) pc L ins r = true) : sChkE q (pc, L, ins, r) = true := by
  unfold sChkD at h
  unfold sChkE
  dsimp only
  split at h
  · rfl
  · rename_i e0
    split
    · rfl
    · rw [Bool.and_eq_true, Bool.and_eq_true] at h
      rw [Bool.and_eq_true, Bool.and_eq_true]
      refine ⟨decide_eq_true (sBy_ok h.1), h.2.1, ?_⟩
      rw [h0]
      rcases h1 with h1 | h1
      · rw [h1] at h
        exact sExt_nm h.2.2
      · rw [h1] at h
        exact h.2.2
theorem sWk_ok {q : sMt} {own nm : String} (h0 : (mY q).cls = own) (h1 : nm = "" ∨ nm = (mY q).name) (es : List sEt) (p : Nat) (h : sWk own nm (mC q) ((mC q).data.toList.drop p) p es = true) : es.all (sChkE q) = true := by
  induction es generalizing p with
  | nil => rfl
  | cons e r ih =>
    obtain ⟨pc, L, ins, w⟩ := e
    unfold sWk at h
    rw [Bool.and_eq_true, sAdv_eq, List.drop_drop] at h
    obtain ⟨h1', h2⟩ := h
    have h3 : p + (pc - p) = pc := by have := Nat.le_of_ble_eq_true h1'; omega
    rw [h3, Bool.and_eq_true] at h2
    rw [List.all_cons, Bool.and_eq_true]
    exact ⟨sChkD_ok h0 h1 h2.1, ih pc h2.2⟩
def sOwk (c : Nat) (o : String) (f : String → Bool) : Bool := match c with
  | 0 => f RX0
  | 1 => f RX1
  | 2 => f RX2
  | 3 => f RX3
  | 4 => f RX4
  | 5 => f RX5
  | 6 => f RX6
  | 7 => f RX7
  | 8 => f RX8
  | 9 => f RX9
  | 10 => f RX10
  | 11 => f RX11
  | 12 => f RX12
  | _ => f o
theorem sOwk_ex {c : Nat} {o : String} {f : String → Bool} (h : sOwk c o f = true) : ∃ x, f x = true := by
  unfold sOwk at h
  split at h <;> exact ⟨_, h⟩
def sWq (q : sMt) (es : List sEt) : Bool := sOwk (mI q) (mY q).cls (fun own => decide ((mY q).cls = own) && cond (decide ((mY q).name = "<init>")) (sWk own (mY q).name (mC q) (mC q).data.toList 0 es) (sWk own "" (mC q) (mC q).data.toList 0 es))
theorem sWk_0 {q : sMt} {es : List sEt} (h : sWq q es = true) : es.all (sChkE q) = true := by
  obtain ⟨own, h1⟩ := sOwk_ex h
  rw [Bool.and_eq_true, decide_eq_true_eq] at h1
  obtain ⟨h2, h3⟩ := h1
  cases e : decide ((mY q).name = "<init>") with
  | true =>
    rw [e] at h3
    exact sWk_ok h2 (Or.inr rfl) es 0 h3
  | false =>
    rw [e] at h3
    exact sWk_ok h2 (Or.inl rfl) es 0 h3
/-! ===== a method's own words, its bytes compared in one walk ===== -/
def sLEq : List UInt8 → List UInt8 → Bool
  | [], [] => true
  | a :: l, b :: m => a.toNat == b.toNat && sLEq l m
  | _, _ => false
theorem sLEq_of : ∀ {l m : List UInt8}, sLEq l m = true → l = m
  | [], [], _ => rfl
  | a :: l, b :: m, h => by
    unfold sLEq at h
    rw [Bool.and_eq_true, beq_iff_eq] at h
    rw [UInt8.toNat_inj.mp h.1, sLEq_of h.2]
  | [], _ :: _, h => by cases h
  | _ :: _, [], h => by cases h
def sWc (p : Nat) (x : MethodName) (b : ByteArray) (n : Nat) (r : Option FieldType) : Bool := match sW p with
  | some (.code x' b' n' r') => decide (x' = x) && (sLEq b'.data.toList b.data.toList && (n' == n && decide (r' = r)))
  | _ => false
theorem sWc_of {p : Nat} {x : MethodName} {b : ByteArray} {n : Nat} {r : Option FieldType} (h : sWc p x b n r = true) : sWi p (.code x b n r) = true := by
  unfold sWc at h
  split at h
  · rename_i x' b' n' r' hw
    simp only [Bool.and_eq_true, decide_eq_true_eq, beq_iff_eq] at h
    obtain ⟨h1, h2, h3, h4⟩ := h
    have h5 : b' = b := by
      obtain ⟨⟨l⟩⟩ := b
      obtain ⟨⟨l'⟩⟩ := b'
      have := sLEq_of h2
      dsimp only at this
      rw [this]
    unfold sWi
    rw [hw, h1, h3, h4, h5]
    exact decide_eq_true rfl
  · cases h
def sChkN (q : sMt) : Bool := (match mW q with
  | pc :: pi :: pn :: _ => sWc pc (mY q) (mC q) (mN q) (mR q) && (sWi pn (.initialized (mY q).cls) && (if mK q = 0 then sWi pi (.static (mY q)) else sWi pi (.instanceMethod (mY q))))
  | _ => false) && (Jvm.plainName (mY q).cls && (decide ((mY q).cls ≠ "java/lang/invoke/MethodHandle" ∧ (mY q).cls ≠ "java/lang/invoke/VarHandle" ∧ (parseMethodDescriptor (mY q).desc).map (fun d => d.parameters.length) = some (mA q)) && (decide (mN q ≤ 16) && (decide (mK q = 2 → (mY q).name = "<init>" ∧ mR q = none) && (decide (mK q = 1 → (mY q).name ≠ "<init>") && decide (mK q ≠ 0 → vwCl[mI q]?.map (fun z => z.1) = some (mY q).cls))))))
theorem sChkN_ok {q : sMt} (h : sChkN q = true) : sChkM q = true := by
  unfold sChkN at h
  unfold sChkM
  rw [Bool.and_eq_true] at h ⊢
  refine ⟨?_, h.2⟩
  have h1 := h.1
  split at h1
  · rename_i e
    rw [e]
    dsimp only
    rw [Bool.and_eq_true] at h1
    rw [Bool.and_eq_true]
    exact ⟨sWc_of h1.1, h1.2⟩
  · cases h1
