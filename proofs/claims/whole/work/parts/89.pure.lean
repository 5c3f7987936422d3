theorem p_rest (N n : Nat) (hN : N = n + 100) (hn : 50000 ≤ n) : Rest N := by
  refine ⟨fun x => o_ask N n hN (by omega) x, fun x y z => o_trip N n hN (by omega) x y z, fun x y z σ h => ?_, fun a b c d e σ h => o_calm N (by omega) a b c d e σ h⟩
  rw [hN]
  exact o_order n hn x y z σ h
theorem p_law (L : Nat) (hL : L ≤ 384) (xs : Nat → Int32) : ∃ σ' : q_S, f_L_law 100000 L xs q_σ0 = some σ' := p_law_of (p_rest 100000 99900 rfl (by decide)) Rel0 L hL xs
