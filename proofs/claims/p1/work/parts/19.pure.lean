theorem law_pure (xs : List Int32) (hl : xs.length ≤ 6) : ∃ h', ai_ev [[10, 13, 16, 20], xs] mlaw 0 [some (.retAddr 1), none, none, none] [] [] 0 0 (some (.int 1), h') := sorry
