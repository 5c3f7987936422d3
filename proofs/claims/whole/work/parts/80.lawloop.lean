/-! the law's loop: every step keeps the relation; the operations still to come are premises -/
def Rest (N : Nat) : Prop :=
  (∀ x, Ok (f_X9_ask N x) (f_X10_ask N x)) ∧ (∀ x y z, Ok (f_X9_trip N x y z) (f_X10_trip N x y z)) ∧
  (∀ x y z σ, Rel σ → ∃ r σ1, f_X9_order N x y z σ = some (r, σ1) ∧ f_X10_order N x y z = some r ∧ Rel σ1) ∧
  (∀ a b c d e σ, Rel σ → ∃ r σ1 σ2, f_X9_calm N a b c d e σ = some (r, σ1) ∧ f_X10_calm N a b c d e σ1 = some (r, σ2) ∧ Rel σ2)
theorem s_lgc (r : Int64) : lg_cmp r r = 0 := by
  unfold lg_cmp
  simp
theorem s_lawStep (N : Nat) (R : Rest N) (n n2 : Nat) (hN : N = n + 100) (hN2 : N = n2 + 30000) (L : Nat) (hL : L ≤ 384) (xs : Nat → Int32) (i m : Nat) (hi : i + 6 ≤ L) (σ : q_S) (h : Rel σ) : ∃ σ', f_L_law_18 N L xs (m + 1) (nI i) σ = f_L_law_18 N L xs m (nI (i + 6)) σ' ∧ Rel σ' := by
  have hlt : ¬ (Int32.ofNat L - 6) < nI i := by
    rw [show Int32.ofNat L - 6 = nI (L - 6) from pk_sub (a := L) (b := 6) (by omega)]
    intro e
    have := (nI_lts (by omega) (by omega)).mp e
    omega
  have a1 : nI i + 1 = nI (i + 1) := nI_add i 1
  have a2 : nI i + 2 = nI (i + 2) := nI_add i 2
  have a3 : nI i + 3 = nI (i + 3) := nI_add i 3
  have a4 : nI i + 4 = nI (i + 4) := nI_add i 4
  have a5 : nI i + 5 = nI (i + 5) := nI_add i 5
  have a6 : nI i + 6 = nI (i + 6) := nI_add i 6
  have k0 := s_ik (show i < L by omega) (by omega)
  have k1 := s_ik (show i + 1 < L by omega) (by omega)
  have k2 := s_ik (show i + 2 < L by omega) (by omega)
  have k3 := s_ik (show i + 3 < L by omega) (by omega)
  have k4 := s_ik (show i + 4 < L by omega) (by omega)
  have k5 := s_ik (show i + 5 < L by omega) (by omega)
  have c0 : (nI i).toNatClampNeg = i := nI_clamp (by omega)
  have c1 : (nI (i + 1)).toNatClampNeg = i + 1 := nI_clamp (by omega)
  have c2 : (nI (i + 2)).toNatClampNeg = i + 2 := nI_clamp (by omega)
  have c3 : (nI (i + 3)).toNatClampNeg = i + 3 := nI_clamp (by omega)
  have c4 : (nI (i + 4)).toNatClampNeg = i + 4 := nI_clamp (by omega)
  have c5 : (nI (i + 5)).toNatClampNeg = i + 5 := nI_clamp (by omega)
  rw [f_L_law_18, if_neg hlt, c0, if_pos k0, a6]
  generalize xs i &&& 31 = op
  by_cases h0 : op = 0
  · rw [if_pos h0]
    simp only [a1, a2, c1, c2, if_pos k1, if_pos k2]
    unfold f_L_law_167
    simp only [a1, a2, c1, c2, if_pos k1, if_pos k2, a6]
    by_cases z : xs (i + 2) = 0
    · obtain ⟨e1, e2⟩ := o_arch (xs (i + 1)) 0 σ h
      rw [if_pos z, if_pos z, if_pos e1]
      exact ⟨_, rfl, e2⟩
    · obtain ⟨e1, e2⟩ := o_arch (xs (i + 1)) 1 σ h
      rw [if_neg z, if_neg z, if_pos e1]
      exact ⟨_, rfl, e2⟩
  rw [if_neg h0]
  by_cases h1 : op = 1
  · rw [if_pos h1]
    simp only [a1, c1, if_pos k1]
    obtain ⟨e1, e2⟩ := o_gap (xs (i + 1)) σ h
    rw [if_pos e1]
    exact ⟨_, rfl, e2⟩
  rw [if_neg h1]
  by_cases h2 : op = 2
  · rw [if_pos h2]
    simp only [a1, a2, a3, c1, c2, c3, if_pos k1, if_pos k2, if_pos k3]
    obtain ⟨r, s1, s2, e1, e2, e3⟩ : ∃ r σ1 σ2, f_X9_walker N (xs (i + 1)) (xs (i + 2)) (xs (i + 3)) σ = some (r, σ1) ∧ f_X10_walker N (xs (i + 1)) (xs (i + 2)) (xs (i + 3)) σ1 = some (r, σ2) ∧ Rel σ2 := by rw [hN]; exact o_walker n (xs (i + 1)) (xs (i + 2)) (xs (i + 3)) σ h
    rw [e1]
    simp only [Option.bind_some]
    rw [e2]
    simp only [Option.bind_some, if_true]
    exact ⟨s2, rfl, e3⟩
  rw [if_neg h2]
  by_cases h3 : op = 3
  · rw [if_pos h3]
    simp only [a1, c1, if_pos k1]
    obtain ⟨r, s1, s2, e1, e2, e3⟩ : ∃ r σ1 σ2, f_X9_leave N (xs (i + 1)) σ = some (r, σ1) ∧ f_X10_leave N (xs (i + 1)) σ1 = some (r, σ2) ∧ Rel σ2 := by rw [hN]; exact o_leave n (xs (i + 1)) σ h
    rw [e1]
    simp only [Option.bind_some]
    rw [e2]
    simp only [Option.bind_some, if_true]
    exact ⟨s2, rfl, e3⟩
  rw [if_neg h3]
  by_cases h4 : op = 4
  · rw [if_pos h4]
    simp only [a1, c1, if_pos k1]
    obtain ⟨r, s1, s2, e1, e2, e3⟩ := o_say (xs (i + 1)) σ h
    rw [e1]
    simp only [Option.bind_some]
    rw [e2]
    simp only [Option.bind_some, if_true]
    exact ⟨s2, rfl, e3⟩
  rw [if_neg h4]
  by_cases h5 : op = 5
  · rw [if_pos h5]
    obtain ⟨e1, e2⟩ := o_wipe  σ h
    rw [if_pos e1]
    exact ⟨_, rfl, e2⟩
  rw [if_neg h5]
  by_cases h6 : op = 6
  · rw [if_pos h6]
    obtain ⟨r, e1, e2⟩ : ∃ r, f_X9_fault N σ = some r ∧ f_X10_fault N σ = some r := by rw [hN]; exact o_fault n σ h
    rw [e1, e2]
    simp only [Option.bind_some, if_true]
    exact ⟨σ, rfl, h⟩
  rw [if_neg h6]
  by_cases h7 : op = 7
  · rw [if_pos h7]
    simp only [a1, c1, if_pos k1]
    obtain ⟨r, s1, s2, e1, e2, e3⟩ : ∃ r σ1 σ2, f_X9_judge N (xs (i + 1)) σ = some (r, σ1) ∧ f_X10_judge N (xs (i + 1)) σ1 = some (r, σ2) ∧ Rel σ2 := by rw [hN]; exact o_judge n (xs (i + 1)) σ h
    rw [e1]
    simp only [Option.bind_some]
    rw [e2]
    simp only [Option.bind_some, if_true]
    exact ⟨s2, rfl, e3⟩
  rw [if_neg h7]
  by_cases h8 : op = 8
  · rw [if_pos h8]
    obtain ⟨r, s1, s2, e1, e2, e3⟩ : ∃ r σ1 σ2, f_X9_done N  σ = some (r, σ1) ∧ f_X10_done N  σ1 = some (r, σ2) ∧ Rel σ2 := by rw [hN]; exact o_done n  σ h
    rw [e1]
    simp only [Option.bind_some]
    rw [e2]
    simp only [Option.bind_some, if_true]
    exact ⟨s2, rfl, e3⟩
  rw [if_neg h8]
  by_cases h9 : op = 9
  · rw [if_pos h9]
    simp only [a1, a2, c1, c2, if_pos k1, if_pos k2]
    obtain ⟨r, s1, s2, e1, e2, e3⟩ : ∃ r σ1 σ2, f_X9_behind N (xs (i + 1)) (xs (i + 2)) σ = some (r, σ1) ∧ f_X10_behind N (xs (i + 1)) (xs (i + 2)) σ1 = some (r, σ2) ∧ Rel σ2 := by rw [hN]; exact o_behind n (xs (i + 1)) (xs (i + 2)) σ h
    rw [e1]
    simp only [Option.bind_some]
    rw [e2]
    simp only [Option.bind_some, if_true]
    exact ⟨s2, rfl, e3⟩
  rw [if_neg h9]
  by_cases h10 : op = 10
  · rw [if_pos h10]
    simp only [a1, c1, if_pos k1]
    obtain ⟨r, s1, s2, e1, e2, e3⟩ : ∃ r σ1 σ2, f_X9_then N (xs (i + 1)) σ = some (r, σ1) ∧ f_X10_then N (xs (i + 1)) σ1 = some (r, σ2) ∧ Rel σ2 := by rw [hN]; exact o_then n (xs (i + 1)) σ h
    rw [e1]
    simp only [Option.bind_some]
    rw [e2]
    simp only [Option.bind_some, if_true]
    exact ⟨s2, rfl, e3⟩
  rw [if_neg h10]
  by_cases h11 : op = 11
  · rw [if_pos h11]
    simp only [a1, a2, c1, c2, if_pos k1, if_pos k2]
    obtain ⟨r, s2, e1, e2, e3⟩ : ∃ r σ2, f_X9_standing N (xs (i + 1)) (xs (i + 2)) σ = some r ∧ f_X10_standing N (xs (i + 1)) (xs (i + 2)) σ = some (r, σ2) ∧ Rel σ2 := by rw [hN]; exact o_standing n (xs (i + 1)) (xs (i + 2)) σ h
    rw [e1, e2]
    simp only [Option.bind_some, if_true]
    exact ⟨s2, rfl, e3⟩
  rw [if_neg h11]
  by_cases h12 : op = 12
  · rw [if_pos h12]
    simp only [a1, a2, a3, c1, c2, c3, if_pos k1, if_pos k2, if_pos k3]
    obtain ⟨r, s1, s2, e1, e2, e3⟩ := R.2.1 (xs (i + 1)) (xs (i + 2)) (xs (i + 3)) σ h
    rw [e1]
    simp only [Option.bind_some]
    rw [e2]
    simp only [Option.bind_some, if_true]
    exact ⟨s2, rfl, e3⟩
  rw [if_neg h12]
  by_cases h13 : op = 13
  · rw [if_pos h13]
    simp only [a1, a2, c1, c2, if_pos k1, if_pos k2]
    obtain ⟨r, s2, e1, e2, e3⟩ : ∃ r σ2, f_X9_again N (xs (i + 1)) (xs (i + 2)) σ = some r ∧ f_X10_again N (xs (i + 1)) (xs (i + 2)) σ = some (r, σ2) ∧ Rel σ2 := by rw [hN]; exact o_again n (xs (i + 1)) (xs (i + 2)) σ h
    rw [e1, e2]
    simp only [Option.bind_some, if_true]
    exact ⟨s2, rfl, e3⟩
  rw [if_neg h13]
  by_cases h14 : op = 14
  · rw [if_pos h14]
    simp only [a1, a2, a3, c1, c2, c3, if_pos k1, if_pos k2, if_pos k3]
    obtain ⟨r, s1, e1, e2, e3⟩ := R.2.2.1 (xs (i + 1)) (xs (i + 2)) (xs (i + 3)) σ h
    rw [e1, e2]
    simp only [Option.bind_some, if_true]
    exact ⟨s1, rfl, e3⟩
  rw [if_neg h14]
  by_cases h15 : op = 15
  · rw [if_pos h15]
    simp only [a1, a2, c1, c2, if_pos k1, if_pos k2]
    obtain ⟨r, s1, s2, e1, e2, e3⟩ := o_seen (xs (i + 1)) (xs (i + 2)) σ h
    rw [e1]
    simp only [Option.bind_some]
    rw [e2]
    simp only [Option.bind_some, if_true]
    exact ⟨s2, rfl, e3⟩
  rw [if_neg h15]
  by_cases h16 : op = 16
  · rw [if_pos h16]
    obtain ⟨e1, e2⟩ := o_forget  σ h
    rw [if_pos e1]
    exact ⟨_, rfl, e2⟩
  rw [if_neg h16]
  by_cases h17 : op = 17
  · rw [if_pos h17]
    simp only [a1, c1, if_pos k1]
    obtain ⟨r, e1, e2⟩ : ∃ r, f_X9_fits N (xs (i + 1)) σ = some r ∧ f_X10_fits N (xs (i + 1)) σ = some r := by rw [hN2]; exact o_fits n2 _ σ h
    rw [e1, e2]
    simp only [Option.bind_some, if_true]
    exact ⟨σ, rfl, h⟩
  rw [if_neg h17]
  by_cases h18 : op = 18
  · rw [if_pos h18]
    simp only [a1, c1, if_pos k1]
    obtain ⟨r, s1, s2, e1, e2, e3⟩ := R.1 (xs (i + 1)) σ h
    rw [e1]
    simp only [Option.bind_some]
    rw [e2]
    simp only [Option.bind_some, if_true]
    exact ⟨s2, rfl, e3⟩
  rw [if_neg h18]
  by_cases h19 : op = 19
  · rw [if_pos h19]
    simp only [a1, a2, a3, c1, c2, c3, if_pos k1, if_pos k2, if_pos k3]
    obtain ⟨r, e1, e2⟩ : ∃ r, f_X9_lengths N (xs (i + 1)) (xs (i + 2)) (xs (i + 3)) = some r ∧ f_X10_lengths N (xs (i + 1)) (xs (i + 2)) (xs (i + 3)) = some r := by rw [hN]; exact o_lengths n _ _ _
    rw [e1, e2]
    simp only [Option.bind_some, if_true]
    exact ⟨σ, rfl, h⟩
  rw [if_neg h19]
  by_cases h20 : op = 20
  · rw [if_pos h20]
    simp only [a1, a2, a3, a4, a5, c1, c2, c3, c4, c5, if_pos k1, if_pos k2, if_pos k3, if_pos k4, if_pos k5]
    obtain ⟨r, s1, s2, e1, e2, e3⟩ := R.2.2.2 (xs (i + 1)) (xs (i + 2)) (xs (i + 3)) (xs (i + 4)) (xs (i + 5)) σ h
    rw [e1]
    simp only [Option.bind_some]
    rw [e2]
    simp only [Option.bind_some, s_lgc, if_true]
    exact ⟨s2, rfl, e3⟩
  rw [if_neg h20]
  by_cases h21 : op = 21
  · rw [if_pos h21]
    simp only [a1, a2, a3, c1, c2, c3, if_pos k1, if_pos k2, if_pos k3]
    obtain ⟨r, s1, s2, e1, e2, e3⟩ : ∃ r σ1 σ2, f_X9_year N (xs (i + 1)) (xs (i + 2)) (xs (i + 3)) σ = some (r, σ1) ∧ f_X10_year N (xs (i + 1)) (xs (i + 2)) (xs (i + 3)) σ1 = some (r, σ2) ∧ Rel σ2 := by rw [hN]; exact o_year n (xs (i + 1)) (xs (i + 2)) (xs (i + 3)) σ h
    rw [e1]
    simp only [Option.bind_some]
    rw [e2]
    simp only [Option.bind_some, if_true]
    exact ⟨s2, rfl, e3⟩
  rw [if_neg h21]
  by_cases h22 : op = 22
  · rw [if_pos h22]
    simp only [a1, c1, if_pos k1]
    obtain ⟨r, s1, s2, e1, e2, e3⟩ : ∃ r σ1 σ2, f_X9_image N (xs (i + 1)) σ = some (r, σ1) ∧ f_X10_image N (xs (i + 1)) σ1 = some (r, σ2) ∧ Rel σ2 := by rw [hN]; exact o_image n (xs (i + 1)) σ h
    rw [e1]
    simp only [Option.bind_some]
    rw [e2]
    simp only [Option.bind_some, if_true]
    exact ⟨s2, rfl, e3⟩
  rw [if_neg h22]
  by_cases h23 : op = 23
  · rw [if_pos h23]
    simp only [a1, c1, if_pos k1]
    obtain ⟨r, s1, s2, e1, e2, e3⟩ : ∃ r σ1 σ2, f_X9_restore N (xs (i + 1)) σ = some (r, σ1) ∧ f_X10_restore N (xs (i + 1)) σ1 = some (r, σ2) ∧ Rel σ2 := by rw [hN]; exact o_restore n (xs (i + 1)) σ h
    rw [e1]
    simp only [Option.bind_some]
    rw [e2]
    simp only [Option.bind_some, if_true]
    exact ⟨s2, rfl, e3⟩
  rw [if_neg h23]
  by_cases h24 : op = 24
  · rw [if_pos h24]
    simp only [a1, c1, if_pos k1]
    obtain ⟨r, s2, e1, e2, e3⟩ : ∃ r σ2, f_X9_told N (xs (i + 1)) σ = some r ∧ f_X10_told N (xs (i + 1)) σ = some (r, σ2) ∧ Rel σ2 := by rw [hN]; exact o_told n (xs (i + 1)) σ h
    rw [e1, e2]
    simp only [Option.bind_some, if_true]
    exact ⟨s2, rfl, e3⟩
  rw [if_neg h24]
  exact ⟨σ, rfl, h⟩
theorem s_lawLoop (N : Nat) (R : Rest N) (n n2 : Nat) (hN : N = n + 100) (hN2 : N = n2 + 30000) (L : Nat) (hL : L ≤ 384) (xs : Nat → Int32) : ∀ (d i m : Nat) (σ : q_S), 390 ≤ i + 6 * d → i ≤ 390 → d < m → Rel σ → ∃ σ', f_L_law_18 N L xs m (nI i) σ = some σ' := by
  have stop : ∀ (i m : Nat) (σ : q_S), L < i + 6 → i ≤ 396 → ∃ σ', f_L_law_18 N L xs (m + 1) (nI i) σ = some σ' := by
    intro i m σ hi hi2
    have hlt : (Int32.ofNat L - 6) < nI i := by
      rw [Int32.lt_iff_toInt_lt, nI_toInt (by omega), show Int32.ofNat L - 6 = Int32.ofInt ((L : Int) - 6) from ?_]
      · rw [Int32.toInt_ofInt_of_le (by omega) (by omega)]
        omega
      · rw [Int32.ofInt_sub, Int32.ofInt_eq_ofNat]
        rfl
    rw [f_L_law_18, if_pos hlt]
    exact ⟨σ, rfl⟩
  intro d
  induction d with
  | zero =>
    intro i m σ h1 h2 h3 h
    obtain ⟨m, rfl⟩ : ∃ k, m = k + 1 := ⟨m - 1, by omega⟩
    exact stop i m σ (by omega) (by omega)
  | succ d ih =>
    intro i m σ h1 h2 h3 h
    obtain ⟨m, rfl⟩ : ∃ k, m = k + 1 := ⟨m - 1, by omega⟩
    by_cases hi : i + 6 ≤ L
    · obtain ⟨σ', e1, e2⟩ := s_lawStep N R n n2 hN hN2 L hL xs i m hi σ h
      rw [e1]
      exact ih (i + 6) m σ' (by omega) (by omega) (by omega) e2
    · exact stop i m σ (by omega) (by omega)
theorem p_law_of (R : Rest 100000) (h0 : Rel q_σ0) (L : Nat) (hL : L ≤ 384) (xs : Nat → Int32) : ∃ σ' : q_S, f_L_law 100000 L xs q_σ0 = some σ' := by
  unfold f_L_law
  exact s_lawLoop 100000 R 99900 70000 rfl rfl L hL xs 65 0 100000 q_σ0 (by omega) (by omega) (by omega) h0
