theorem law_math {L : Nat} (hL : L ≤ 4096) (xs : Nat → Int32) : ∃ n, n ≤ 100000 ∧ lp (fun _ _ => False) (h_L_law_23 L xs) n V0 0 := sorry
