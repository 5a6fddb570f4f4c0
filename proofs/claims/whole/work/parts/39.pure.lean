theorem pure_law (L : Nat) (xs : Nat → Int32) (hL : L ≤ 2048) : ∃ o, f_L_law_L18 L xs BIG 0 (t0, m0) = some o ∧ o.1 = 1 := sorry
