theorem q_law (L : Nat) (hL : L ≤ 2560) (xs : Nat → Int32) : ∃ n mm', q_exec n (some (L, xs)) 205 (q_ent 205 [.retAddr 0]) ([], fun _ _ => 0) = some (some (.int 1), mm') := sorry
