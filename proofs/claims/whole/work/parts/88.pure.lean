theorem pure_law (L : Nat) (xs : Nat → Int32) (hL : L ≤ 320) : ∃ (N : Nat) (σ' : Sg), b_L_law_18 N L xs N 0 am_s0 = some (1, σ') := sorry
