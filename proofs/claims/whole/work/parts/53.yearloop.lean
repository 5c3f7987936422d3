/-! the draws of a year -/
theorem s_seed (s : Nat) (hs : s < 65537) : q_rem ((75 * nI s) + 74) 65537 = nI ((75 * s + 74) % 65537) := by
  rw [show (75 : Int32) * nI s = nI (75 * s) from pk_mul 75 s, show nI (75 * s) + (74 : Int32) = nI (75 * s + 74) from nI_add (75 * s) 74]
  exact pk_rem (a := 75 * s + 74) (d := 65537) (by omega) (by decide) (by decide)
theorem s_k7 : ∀ k : Fin 8, nI k.val &&& 7 = nI k.val := by decide
theorem s_yrLoop (n : Nat) (x3 : Int32) (t : Nat) (ht : t < 100) : ∀ (d c m1 m2 s : Nat) (σ τ : q_S), c + d = t → d < m1 → d < m2 → s < 65537 → DR σ τ → ∃ σ' τ', f_X9_drawYear_5 (n + 100) 17 (nI t) m1 (nI s) (nI c) σ = some σ' ∧ f_X10_year_43 (n + 100) (nI t) x3 m2 (nI s) (nI c) τ = f_X10_year_169 (n + 100) x3 (n + 100) 0 0 τ' ∧ DR σ' τ' ∧ FC σ σ' ∧ FM τ τ' := by
  intro d
  induction d with
  | zero =>
    intro c m1 m2 s σ τ h1 h2 h3 hs h
    obtain ⟨m1, rfl⟩ : ∃ k, m1 = k + 1 := ⟨m1 - 1, by omega⟩
    obtain ⟨m2, rfl⟩ : ∃ k, m2 = k + 1 := ⟨m2 - 1, by omega⟩
    have e : c = t := by omega
    subst e
    rw [f_X9_drawYear_5, f_X10_year_43, if_pos (nI_le (Nat.le_refl _) (by omega)), if_pos (nI_le (Nat.le_refl _) (by omega))]
    exact ⟨σ, τ, rfl, rfl, h, FC_rf σ, FM_rf τ⟩
  | succ d ih =>
    intro c m1 m2 s σ τ h1 h2 h3 hs h
    obtain ⟨m1, rfl⟩ : ∃ k, m1 = k + 1 := ⟨m1 - 1, by omega⟩
    obtain ⟨m2, rfl⟩ : ∃ k, m2 = k + 1 := ⟨m2 - 1, by omega⟩
    have hs' : (75 * s + 74) % 65537 < 65537 := Nat.mod_lt _ (by decide)
    have e1 := s_seed s hs
    generalize (75 * s + 74) % 65537 = s' at *
    have e2 : q_rem (nI s') 6 = nI (s' % 6) := pk_rem (a := s') (d := 6) (by omega) (by decide) (by decide)
    have e3 : nI s' / 6 = nI (s' / 6) := pk_div (a := s') (d := 6) (by omega) (by decide) (by decide)
    have e4 : q_rem (nI (s' / 6)) 8 = nI (s' / 6 % 8) := pk_rem (a := s' / 6) (d := 8) (by omega) (by decide) (by decide)
    have hi : s' % 6 < 6 := Nat.mod_lt _ (by decide)
    have hk : s' / 6 % 8 < 8 := Nat.mod_lt _ (by decide)
    have e5 := s_k7 ⟨s' / 6 % 8, hk⟩
    obtain ⟨σ1, τ1, a1, a2, a3, a4, a5⟩ := s_yrStep h n (s' % 6) (s' / 6 % 8) hi hk
    obtain ⟨σ2, τ2, b1, b2, b3, b4, b5⟩ := ih (c + 1) m1 m2 s' σ1 τ1 (by omega) (by omega) (by omega) hs' a3
    refine ⟨σ2, τ2, ?_, ?_, b3, FC_tr a4 b4, FM_tr a5 b5⟩
    · rw [f_X9_drawYear_5, if_neg (nI_ge (show c < t by omega) (by omega)), e1, e2, e3, e4, e5, if_pos (nI_in hk (by decide)), nI_clamp (by omega), nI_1]
      exact (a1 _).trans b1
    · rw [f_X10_year_43, if_neg (nI_ge (show c < t by omega) (by omega)), e1, e2, e3, e4, nI_1]
      exact (a2 _).trans b2
theorem o_year (n : Nat) (x y z : Int32) : Ok (f_X9_year (n + 100) x y z) (f_X10_year (n + 100) x y z) := by
  intro σ h
  unfold f_X9_year f_X10_year
  simp only [s_wI, s_wM]
  by_cases hx : 0 ≤ x ∧ x ≤ 9999
  · by_cases hy : 1 ≤ y ∧ y ≤ 99
    · by_cases hz : 0 ≤ z ∧ z ≤ 2
      · simp only [if_pos hx, if_pos hy, if_pos hz, show ¬ ((1 : Int32) = 0) by decide, if_false]
        obtain ⟨s, hs, rfl⟩ := (s_rng x 9999 9999 rfl).mp hx
        obtain ⟨t, ht, rfl⟩ : rng y 100 := by
          obtain ⟨q1, q2⟩ := hy
          rw [Int32.le_iff_toInt_le] at q1 q2
          have a1 : (1 : Int32).toInt = 1 := rfl
          have a2 : (99 : Int32).toInt = 99 := rfl
          exact rng_of (by omega) (by omega)
        obtain ⟨v, v1, v2⟩ := s_copy n 17 0 σ (Or.inr (by decide)) (rB_BL h.1)
        have hvF : FT σ v := ⟨fun p hp _ => v2.1 p (by omega), v2.2.1⟩
        have run : ∀ τ, FQ σ τ → ∃ σ' τ', f_X9_drawYear_5 (n + 100) 17 (nI t) (n + 100) (nI s) 0 v = some σ' ∧ f_X10_year_43 (n + 100) (nI t) z (n + 100) (nI s) 0 (q_w (q_w (q_cp τ 85 86 0 0 50) 84 10 (-6)) 84 11 (-6)) = f_X10_year_169 (n + 100) z (n + 100) 0 0 τ' ∧ DR σ' τ' ∧ FC v σ' ∧ FD τ τ' := fun τ hτ => by
          have hD : FD τ (q_w (q_w (q_cp τ 85 86 0 0 50) 84 10 (-6)) 84 11 (-6)) := FD_tr (FD_tr (b := q_cp τ 85 86 0 0 50) ⟨fun p hp hq => s_cp_n _ _ _ _ _ _ hp, fun k hk => by rw [s_cp_n _ _ _ _ _ _ (by decide)], rfl⟩ (FD_w _ _ _ (by decide))) (FD_w _ _ _ (by decide))
          have hDR : DR v (q_w (q_w (q_cp τ 85 86 0 0 50) 84 10 (-6)) 84 11 (-6)) := by
            unfold DR
            rw [hD.1 87 (by decide) (by decide), hD.1 88 (by decide) (by decide), hD.2.1 2 (by decide), hD.2.1 4 (by decide), hD.2.1 5 (by decide), hD.2.1 6 (by decide), hτ 87 (by decide), hτ 88 (by decide), hτ 84 (by decide)]
            refine rB_row (rB_copy v2 h.1) (fun k hk => ?_) (fun k hk => rfl) (fun k hk => rfl)
            rw [s_wn _ _ _ _ (by decide), s_wn _ _ _ _ (by decide), ← hτ 85 (by decide)]
            exact s_cp_at τ 85 86 50 k hk
          obtain ⟨σ', τ', a1, a2, a3, a4, a5⟩ := s_yrLoop n z t ht t 0 (n + 100) (n + 100) s v _ (by omega) (by omega) (by omega) (by omega) hDR
          exact ⟨σ', τ', a1, a2, a3, a4, FD_tr hD (FD_fm a5)⟩
        obtain ⟨σ1, τ0, a1, -, -, a4, -⟩ := run σ (FQ_FT (FT_rf σ))
        have hF : FT σ σ1 := FT_tr hvF (FT_fc a4)
        obtain ⟨σ2, τ', b1, b2, b3, b4, b5⟩ := run σ1 (FQ_FT hF)
        have e12 : σ1 = σ2 := by
          rw [a1] at b1
          exact Option.some.inj b1
        subst e12
        refine ok_of σ1 τ' (Rel_FD (Rel_FT h hF) b5) ?_
        unfold f_X9_drawYear
        simp only [v1, a1, s_asNow, Option.bind_some, b2]
        obtain ⟨r, r1, r2⟩ := s_sum b3 n z
        obtain ⟨p, p1, p2⟩ := s_pc b3 n
        rw [r2, r1, p1, p2]
        simp only [Option.bind_some]
        by_cases z0 : z = 0
        · rw [if_pos z0, if_pos z0]
          exact ⟨r, rfl, rfl⟩
        · rw [if_neg z0, if_neg z0]
          by_cases z1 : z = 1
          · rw [if_pos z1, if_pos z1]
            exact ⟨p, rfl, rfl⟩
          · rw [if_neg z1, if_neg z1, b3.2.2.1.1]
            rcases b3.2.2.1.2 with e | e
            · refine ⟨0, ?_, ?_⟩
              · rw [if_pos e]
              · rw [e]
            · refine ⟨1, ?_, ?_⟩
              · rw [if_neg (by rw [e]; decide)]
              · rw [e]
      · simp only [if_pos hx, if_pos hy, if_neg hz, show ¬ ((1 : Int32) = 0) by decide, if_false, if_true]
        exact ⟨_, _, σ, rfl, rfl, h⟩
    · simp only [if_pos hx, if_neg hy, show ¬ ((1 : Int32) = 0) by decide, if_false, if_true]
      exact ⟨_, _, σ, rfl, rfl, h⟩
  · simp only [if_neg hx, if_true]
    exact ⟨_, _, σ, rfl, rfl, h⟩
