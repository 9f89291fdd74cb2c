theorem s_all (L : Nat) (xs : Nat → Int32) (hL : L ≤ 6) : sLawGo L xs := sorry
