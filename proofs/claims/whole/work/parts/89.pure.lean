theorem law_ok (L : Nat) (xs : Nat → Int32) (hL : L ≤ 3072) : f_law L xs hp0 = some () := by
  sorry
