theorem law_pure {L : Nat} (hL : L ≤ 2560) (xs : Nat → Int32) : f_L xs L (((fun _ => 0), (fun _ _ => 0)), ((fun _ => 0), (fun _ _ => 0))) = some 1 := by
  sorry
