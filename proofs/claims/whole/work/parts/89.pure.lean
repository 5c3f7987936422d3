theorem p_law (L : Nat) (hL : L ≤ 384) (xs : Nat → Int32) : ∃ σ' : q_S, f_L_law 100000 L xs q_σ0 = some σ' := sorry
