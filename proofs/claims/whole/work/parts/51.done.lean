theorem o_done (n : Nat) : Ok (f_X9_done (n + 100)) (f_X10_done (n + 100)) := by
  intro σ h
  unfold f_X9_done f_X10_done
  obtain ⟨σ1, a1, a2, a3⟩ := s_bar n σ h
  rw [a1]
  simp only [Option.bind_some]
  have hR := Rel_FT h a2
  rcases a3 with ⟨b1, b2⟩ | ⟨b1, b2⟩
  · obtain ⟨τ', c1, c2⟩ := b2 σ1 (FQ_FT a2)
    refine ok_of σ1 τ' (Rel_FD hR c2) ⟨-5, ?_, ?_⟩
    · rw [if_pos b1]
    · simp only [c1]
      rfl
  · obtain ⟨t0, t1, t2, c3, -⟩ := b2 σ1 (FQ_FT a2)
    obtain ⟨z, z1, z2⟩ := s_copy n 0 17 σ1 (Or.inl (by decide)) (rB_BL c3)
    rw [if_neg (show ¬ σ1.1 71 2 = 0 by rw [b1]; decide), z1]
    simp only [Option.bind_some]
    have hzq : FQ σ (f_X2_clear z).2 := fun p hp => by
      unfold f_X2_clear
      rw [s_wn _ _ _ _ (by omega), z2.1 p (by omega), a2.1 p (by omega) (by omega)]
    obtain ⟨τ', d1, d2, d3, d4, -, -⟩ := b2 _ hzq
    have low : ∀ p, 17 ≤ p → p ≠ 69 → p ≠ 84 → p ≠ 85 → p ≠ 86 → (q_w (q_cp τ' 86 85 0 0 50) 84 8 0).1 p = σ1.1 p := fun p h1 h2 h3 h4 h5 => by
      rw [s_wn _ _ _ _ h3, s_cp_n _ _ _ _ _ _ h4, d2.1 p h5 h3]
      unfold f_X2_clear
      rw [s_wn _ _ _ _ h2, z2.1 p (by omega)]
    have m84 : ∀ k, k < 10 → k ≠ 8 → (q_w (q_cp τ' 86 85 0 0 50) 84 8 0).1 84 k = τ'.1 84 k := fun k h1 h2 => by
      rw [s_w1, s_un _ _ _ h2, s_cp_n _ _ _ _ _ _ (by decide)]
    refine ok_of (f_X2_clear z).2 (q_w (q_cp τ' 86 85 0 0 50) 84 8 0) ?_ ⟨τ'.1 84 13, ?_, ?_⟩
    · obtain ⟨-, hP, hI0, hI1⟩ := hR
      refine ⟨?_, ⟨?_, ?_, fun j hj => ?_⟩, rI_congr (fun k hk => low _ (by omega) (by omega) (by omega) (by omega) (by omega)) (low 73 (by decide) (by decide) (by decide) (by decide) (by decide)) (low 97 (by decide) (by decide) (by decide) (by decide) (by decide)) (low 96 (by decide) (by decide) (by decide) (by decide) (by decide)) hI0, rI_congr (fun k hk => low _ (by omega) (by omega) (by omega) (by omega) (by omega)) (low 73 (by decide) (by decide) (by decide) (by decide) (by decide)) (low 97 (by decide) (by decide) (by decide) (by decide) (by decide)) (low 96 (by decide) (by decide) (by decide) (by decide) (by decide)) hI1⟩
      · rw [m84 2 (by decide) (by decide), m84 4 (by decide) (by decide), m84 5 (by decide) (by decide), m84 6 (by decide) (by decide)]
        refine rB_row (B := τ'.1 86) (lt := τ'.1 87) (sg := τ'.1 88) (rB_congr (σ := z) (fun k hk => ?_) (rB_copy z2 d3)) (fun k hk => ?_) (fun k hk => ?_) (fun k hk => ?_)
        · rw [s_wn _ _ _ _ (by omega), s_cp_n _ _ _ _ _ _ (by omega), d2.1 _ (by omega) (by omega)]
          unfold f_X2_clear
          rw [s_wn _ _ _ _ (by omega)]
        · rw [s_wn _ _ _ _ (by decide)]
          exact s_cp_at τ' 86 85 50 k hk
        · rw [s_wn _ _ _ _ (by decide), s_cp_n _ _ _ _ _ _ (by decide)]
        · rw [s_wn _ _ _ _ (by decide), s_cp_n _ _ _ _ _ _ (by decide)]
      · rw [s_w1, s_u1, s_wn _ _ _ _ (by decide), s_cp_n _ _ _ _ _ _ (by decide), d2.1 69 (by decide) (by decide)]
        unfold f_X2_clear
        rw [s_w1, s_u1]
      · rw [s_w1, s_u1]
        exact ⟨0, by decide, rfl⟩
      · rw [low 70 (by decide) (by decide) (by decide) (by decide) (by decide), low 89 (by decide) (by decide) (by decide) (by decide) (by decide)]
        exact hP.2.2 j hj
    · rw [show ((f_X2_clear z).2).1 71 3 = σ1.1 71 3 from ?_, d4]
      unfold f_X2_clear
      rw [s_wn _ _ _ _ (by decide), z2.1 71 (by decide)]
    · rw [d1]
      simp only [Option.bind_some]
      rw [if_pos (show (0 : Int32) ≤ 0 by decide)]
      exact s_done_l (n + 100) 50 0 (n + 100) τ' (by decide) (by omega)
