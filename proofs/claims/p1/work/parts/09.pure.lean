theorem law_pure (L : Nat) (xs : Nat → Int32) (hL : L ≤ 7) : ml xs L = some () := by sorry
