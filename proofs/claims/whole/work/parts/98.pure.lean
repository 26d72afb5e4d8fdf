def FUEL : Nat := 100000
theorem pure_all {L : Nat} {xs : Nat → Int32} (hL : L ≤ 2562) : PureAll FUEL L xs := sorry
