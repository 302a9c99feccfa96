theorem law_runs (L : Nat) (xs : Nat → Int32) (hL : L ≤ 3072) : ∃ M', F_L_law (g_M0 L xs) = some (1, M') := sorry
