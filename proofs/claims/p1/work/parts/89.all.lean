/-! ===== the law on every script ===== -/
theorem a_cases (pc : Nat) (hp : pc ∈ aTgs) : aCase (aX0 pc) := by
  simp only [aTgs, List.mem_cons, List.not_mem_nil, or_false] at hp
  rcases hp with rfl | rfl | rfl | rfl | rfl | rfl | rfl | rfl | rfl | rfl | rfl | rfl | rfl | rfl | rfl | rfl | rfl | rfl | rfl | rfl | rfl | rfl | rfl | rfl | rfl | rfl | rfl | rfl | rfl | rfl | rfl | rfl | rfl | rfl | rfl | rfl | rfl | rfl | rfl | rfl | rfl | rfl | rfl
  · exact a_c0
  · exact a_c1
  · exact a_c2
  · exact a_c3
  · exact a_c4
  · exact a_c5
  · exact a_c6
  · exact a_c7
  · exact a_c8
  · exact a_c9
  · exact a_c10
  · exact a_c11
  · exact a_c12
  · exact a_c13
  · exact a_c14
  · exact a_c15
  · exact a_c16
  · exact a_c17
  · exact a_c18
  · exact a_c19
  · exact a_c20
  · exact a_c21
  · exact a_c22
  · exact a_c23
  · exact a_c24
  · exact a_c25
  · exact a_c26
  · exact a_c27
  · exact a_c28
  · exact a_c29
  · exact a_c30
  · exact a_c31
  · exact a_c32
  · exact a_c33
  · exact a_c34
  · exact a_c35
  · exact a_c36
  · exact a_c37
  · exact a_c38
  · exact a_c39
  · exact a_c40
  · exact a_c41
  · exact a_c42

theorem s_all (L : Nat) (xs : Nat → Int32) (hL : L ≤ 6) : sLawGo L xs := by
  have HX : aHX (fun i => if i = 10 then Int32.ofNat L else xs i, fun _ => 0, fun _ => .inr (0, [])) (some (L, xs)) := ⟨L, xs, rfl, hL, rfl, fun i hi => if_neg (by omega)⟩
  have hz : aZok (fun i => if i = 10 then Int32.ofNat L else xs i, fun _ => 0, fun _ => .inr (0, [])) := fun n => Nat.zero_le _
  refine a_head a_cases HX hz (fun e he => ?_)
  cases List.mem_singleton.mp he
  show (0 : Int) ≤ (Int32.ofNat L).toInt ∧ (Int32.ofNat L).toInt ≤ 6
  rw [Int32.toInt_ofNat_of_lt (by omega)]
  omega
