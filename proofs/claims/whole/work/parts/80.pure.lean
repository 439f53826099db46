/-! The statement about functions. -/
abbrev xN : Nat := 2048
theorem xpure (L : Nat) (xs : Nat → Int32) (hL : L ≤ xN) : f_l_law xs L (xhI xs) (xhI xs) xjI = some 1 := xpure2048 L xs hL
