theorem law_pure (xs : Nat → Int32) (Ln : Nat) (hL : Ln ≤ 3072) : ∃ μ' : gx_M, f_law xs Ln gx_M1 = some (true, μ') := sorry
