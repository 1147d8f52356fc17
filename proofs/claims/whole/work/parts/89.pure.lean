theorem law_pure (xs : Nat → Int32) {L : Nat} (hL : L ≤ 2560) (n : Nat) : ∃ T, f_Law_law xs L (fun _ => none, n, 0) = some (T, 1) := law_go xs hL n
