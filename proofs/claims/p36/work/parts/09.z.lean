theorem law_pure (L : Nat) (xs : Nat → Int32) (hL : L ≤ 260) : ml xs L (fun _ _ => 0) (fun _ _ => 0) = some () := by
  sorry
