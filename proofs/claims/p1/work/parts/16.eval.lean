theorem xlaw_all (xs : List Int32) (h : xs.length ≤ 4) : ∃ d n, xlaw xs d n = true := sorry
