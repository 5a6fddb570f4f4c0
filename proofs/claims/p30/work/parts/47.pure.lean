theorem pure_law (L : Nat) (xs : Nat → Int32) (hL : L ≤ 260) : ∃ o, f_L_law L xs (t0, m0) = some o ∧ o.1 = 1 := sorry
