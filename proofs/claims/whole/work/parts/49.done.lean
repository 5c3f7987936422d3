/-! done, behind, then -/
theorem s_bar (n : Nat) (σ : q_S) (h : Rel σ) : ∃ σ1, f_X6_tell (n + 100) 0 σ = some σ1 ∧ FT σ σ1 ∧
    ((σ1.1 71 2 = 0 ∧ ∀ τ, FQ σ τ → ∃ τ', f_X10_barOfDays (n + 100) τ = some (-5, τ') ∧ FD τ τ') ∨
     (σ1.1 71 2 = 1 ∧ ∀ τ, FQ σ τ → ∃ τ', f_X10_barOfDays (n + 100) τ = some (0, τ') ∧ FD τ τ' ∧ DR σ1 τ' ∧ σ1.1 71 3 = τ'.1 84 13 ∧ σ1.1 71 6 = τ'.1 84 10 ∧ σ1.1 71 7 = τ'.1 84 11)) := by
  obtain ⟨σ1, a1, a2, a3⟩ := s_tell n σ h
  refine ⟨σ1, a1, a2, ?_⟩
  unfold f_X10_barOfDays
  rcases a3 with ⟨b1, b2, v, ⟨j, hj, rfl⟩, b3⟩ | ⟨b1, b2, b4⟩
  · refine Or.inl ⟨b2, fun τ hτ => ⟨τ, ?_, FD_rf τ⟩⟩
    rw [b3 τ hτ]
    simp only [Option.bind_some]
    rw [if_pos]
    rw [Int32.le_iff_toInt_le, nI_toInt (by omega)]
    have h0 : (0 : Int32).toInt = 0 := rfl
    omega
  · rcases b4 with ⟨c1, c2, c3, c4⟩ | ⟨c1, ⟨a, ha, ea⟩, c3⟩
    · refine Or.inr ⟨c1, fun τ hτ => ?_⟩
      obtain ⟨τ', d1, d2, d3⟩ := c4 τ hτ
      refine ⟨τ', ?_, d1, d3⟩
      rw [b2 τ hτ, d2]
      rfl
    · refine Or.inl ⟨c1, fun τ hτ => ?_⟩
      obtain ⟨τ', d1, d2, d3⟩ := c3 τ hτ
      refine ⟨τ', ?_, d1⟩
      rw [b2 τ hτ, d2]
      simp only [Option.bind_some]
      rw [if_neg (by decide), ea, if_neg (nI_pos (by omega))]
theorem ok_of {C : Option (Int32 × q_S)} {M : q_S → Option (Int32 × q_S)} (σ1 τ' : q_S) (hR : Rel τ') (h : ∃ r, C = some (r, σ1) ∧ M σ1 = some (r, τ')) : ∃ r σ1 σ2, C = some (r, σ1) ∧ M σ1 = some (r, σ2) ∧ Rel σ2 := by
  obtain ⟨r, h1, h2⟩ := h
  exact ⟨r, σ1, τ', h1, h2, hR⟩
theorem o_then (n : Nat) (x : Int32) : Ok (f_X9_then (n + 100) x) (f_X10_then (n + 100) x) := by
  intro σ h
  unfold f_X9_then f_X10_then
  rw [s_wI, s_wM]
  by_cases hx : 0 ≤ x ∧ x ≤ 4
  · rw [if_pos hx]
    simp only [show ¬ ((1 : Int32) = 0) by decide, if_false]
    obtain ⟨σ1, a1, a2, a3⟩ := s_bar n σ h
    rw [a1]
    simp only [Option.bind_some]
    have hR := Rel_FT h a2
    have hq := FQ_FT a2
    rcases a3 with ⟨b1, b2⟩ | ⟨b1, b2⟩
    · obtain ⟨τ', c1, c2⟩ := b2 σ1 hq
      refine ⟨-5, σ1, τ', ?_, ?_, Rel_FD hR c2⟩
      · rw [if_pos b1]
      · rw [c1]
        rfl
    · obtain ⟨τ', c1, c2, c3, c4, c5, c6⟩ := b2 σ1 hq
      refine ok_of σ1 τ' (Rel_FD hR c2) ?_
      simp only [c1, if_neg (show ¬ σ1.1 71 2 = 0 by rw [b1]; decide), Option.bind_some]
      rw [if_pos (show (0 : Int32) ≤ 0 by decide)]
      obtain ⟨k, hk, rfl⟩ := (s_rng x 4 4 rfl).mp hx
      rcases (show k = 0 ∨ k = 1 ∨ k = 2 ∨ k = 3 ∨ k = 4 by omega) with rfl | rfl | rfl | rfl | rfl
      · rw [if_pos (show nI 0 = (0 : Int32) from rfl), if_neg (show ¬ (2 : Int32) ≤ nI 0 by decide), if_pos (show ¬ ((48 + nI 0 : Int32) < 0 ∨ 50 ≤ (48 + nI 0 : Int32).toNatClampNeg) by decide), show (48 + nI 0 : Int32).toNatClampNeg = 48 by decide, c3.2.2.1.1]
        rcases c3.2.2.1.2 with e | e
        · refine ⟨0, ?_, ?_⟩
          · rw [if_pos e]
          · rw [e]
        · refine ⟨1, ?_, ?_⟩
          · rw [if_neg (by rw [e]; decide)]
          · rw [e]
      · rw [if_neg (show ¬ nI 1 = (0 : Int32) by decide), if_pos (show nI 1 = (1 : Int32) from rfl), if_neg (show ¬ (2 : Int32) ≤ nI 1 by decide), if_pos (show ¬ ((48 + nI 1 : Int32) < 0 ∨ 50 ≤ (48 + nI 1 : Int32).toNatClampNeg) by decide), show (48 + nI 1 : Int32).toNatClampNeg = 49 by decide, c3.2.2.2.1.1]
        exact ⟨τ'.1 86 49, rfl, rfl⟩
      · rw [if_neg (show ¬ nI 2 = (0 : Int32) by decide), if_neg (show ¬ nI 2 = (1 : Int32) by decide), if_pos (show nI 2 = (2 : Int32) from rfl), if_pos (show (2 : Int32) ≤ nI 2 by decide), if_pos (show nI 2 = (2 : Int32) from rfl)]
        have hpc : ∀ (d i m1 m2 : Nat) (y : Int32), i + d = 6 → d < m1 → d < m2 → ∃ r, f_X3_partedCount_4 (n + 100) 17 σ1 m1 y (nI i) = some r ∧ f_X10_partedNow_4 (n + 100) τ' m2 y (nI i) = some r := by
          intro d
          induction d with
          | zero =>
            intro i m1 m2 y hi h1 h2
            obtain ⟨m1, rfl⟩ : ∃ k, m1 = k + 1 := ⟨m1 - 1, by omega⟩
            obtain ⟨m2, rfl⟩ : ∃ k, m2 = k + 1 := ⟨m2 - 1, by omega⟩
            have e : i = 6 := by omega
            subst e
            rw [f_X3_partedCount_4, f_X10_partedNow_4, if_pos (show (6 : Int32) ≤ nI 6 by decide), if_pos (show (6 : Int32) ≤ nI 6 by decide)]
            exact ⟨y, rfl, rfl⟩
          | succ d ih =>
            intro i m1 m2 y hi h1 h2
            obtain ⟨m1, rfl⟩ : ∃ k, m1 = k + 1 := ⟨m1 - 1, by omega⟩
            obtain ⟨m2, rfl⟩ : ∃ k, m2 = k + 1 := ⟨m2 - 1, by omega⟩
            have hi6 : i < 6 := by omega
            rw [f_X3_partedCount_4, f_X10_partedNow_4, if_neg (show ¬ (6 : Int32) ≤ nI i from nI_ge hi6 (by decide)), if_neg (show ¬ (6 : Int32) ≤ nI i from nI_ge hi6 (by decide)), if_pos (nI_in hi6 (by decide)), nI_clamp (by omega), nI_1, s_isT c3 rfl i hi6, s_hasP hi6 (DR_w c3 i hi6) τ' rfl]
            simp only [Option.bind_some]
            by_cases e0 : σ1.1 (17 + 2 + i) 0 = 0
            · rw [if_pos e0, if_pos e0]
              exact ih (i + 1) m1 m2 _ (by omega) (by omega) (by omega)
            · rw [if_neg e0, if_neg e0]
              by_cases e2 : σ1.1 (17 + 2 + i) 2 = 0
              · rw [if_pos e2, if_pos e2]
                exact ih (i + 1) m1 m2 _ (by omega) (by omega) (by omega)
              · rw [if_neg e2, if_neg e2]
                exact ih (i + 1) m1 m2 _ (by omega) (by omega) (by omega)
        obtain ⟨r, r1, r2⟩ := hpc 6 0 (n + 100) (n + 100) 0 rfl (by omega) (by omega)
        refine ⟨r, ?_, ?_⟩
        · unfold f_X3_partedCount
          rw [show f_X3_partedCount_4 (n + 100) 17 σ1 (n + 100) 0 0 = some r from r1]
          rfl
        · unfold f_X10_partedNow
          rw [show f_X10_partedNow_4 (n + 100) τ' (n + 100) 0 0 = some r from r2]
          rfl
      · rw [if_neg (show ¬ nI 3 = (0 : Int32) by decide), if_neg (show ¬ nI 3 = (1 : Int32) by decide), if_neg (show ¬ nI 3 = (2 : Int32) by decide), if_pos (show nI 3 = (3 : Int32) from rfl), if_pos (show (2 : Int32) ≤ nI 3 by decide), if_neg (show ¬ nI 3 = (2 : Int32) by decide), if_pos (show nI 3 = (3 : Int32) from rfl), c5]
        exact ⟨τ'.1 84 10, rfl, rfl⟩
      · rw [if_neg (show ¬ nI 4 = (0 : Int32) by decide), if_neg (show ¬ nI 4 = (1 : Int32) by decide), if_neg (show ¬ nI 4 = (2 : Int32) by decide), if_neg (show ¬ nI 4 = (3 : Int32) by decide), if_pos (show (2 : Int32) ≤ nI 4 by decide), if_neg (show ¬ nI 4 = (2 : Int32) by decide), if_neg (show ¬ nI 4 = (3 : Int32) by decide), c6]
        exact ⟨τ'.1 84 11, rfl, rfl⟩
  · rw [if_neg hx]
    exact ⟨_, _, σ, rfl, rfl, h⟩
