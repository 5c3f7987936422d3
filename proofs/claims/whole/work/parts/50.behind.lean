theorem o_behind (n : Nat) (x y : Int32) : Ok (f_X9_behind (n + 100) x y) (f_X10_behind (n + 100) x y) := by
  intro σ h
  have hth := s_isThere h.1 (τ := σ) rfl x
  unfold f_X9_behind f_X10_behind
  rw [s_wI, s_wM]
  rcases hth with ⟨t1, t2⟩ | ⟨t1, t2, i, hi, rfl, t3⟩
  · refine ok_of σ σ h ⟨-1, ?_, ?_⟩
    · rw [t1]
      rfl
    · simp only [t2, if_true]
  · have t2' : ∀ τ, FQ σ τ → f_X10_isThere (nI i) τ = 1 := fun τ hτ => by
      rw [← t2]
      unfold f_X10_isThere
      rw [hτ 84 (by decide)]
    rw [t1]
    simp only [Option.bind_some, show ¬ ((1 : Int32) = 0) by decide, if_false]
    by_cases hy : 0 ≤ y ∧ y ≤ 2
    · rw [if_pos hy]
      simp only [show ¬ ((1 : Int32) = 0) by decide, if_false]
      obtain ⟨σ1, a1, a2, a3⟩ := s_bar n σ h
      rw [a1]
      simp only [Option.bind_some]
      have hR := Rel_FT h a2
      have hq := FQ_FT a2
      rcases a3 with ⟨b1, b2⟩ | ⟨b1, b2⟩
      · obtain ⟨τ', c1, c2⟩ := b2 σ1 hq
        refine ok_of σ1 τ' (Rel_FD hR c2) ⟨-5, ?_, ?_⟩
        · rw [if_pos b1]
        · simp only [t2' σ1 hq, c1]
          rfl
      · obtain ⟨τ', c1, c2, c3, c4, c5, c6⟩ := b2 σ1 hq
        refine ok_of σ1 τ' (Rel_FD hR c2) ?_
        simp only [t2' σ1 hq, c1, if_neg (show ¬ σ1.1 71 2 = 0 by rw [b1]; decide), Option.bind_some, show ¬ ((1 : Int32) = 0) by decide, if_false]
        have hw := DR_w c3 i hi
        have hth1 : σ1.1 (17 + 2 + i) 0 = 1 := by
          rw [← s_isT c3 rfl i hi, ← t2' σ1 hq]
          unfold f_X10_isThere
          rw [c2.2.1 2 (by decide)]
        rw [if_pos (show (0 : Int32) ≤ 0 by decide), if_pos (nI_in hi (by decide)), nI_clamp (by omega), show (6 : Int32) * nI i = nI (6 * i) from pk_mul 6 i, if_pos (nI_in (show 6 * i < 50 by omega) (by decide)), nI_clamp (by omega), s_otherC σ1 17 i (rW_lt hw), s_otherM hi hw hth1 c3.2.2.1.1 c3.2.2.1.2 τ' (fun _ _ => rfl) rfl, s_hasP hi hw τ' rfl, hw.2.2.2.2.2.2.2.1, show 17 + 2 + i + 6 = 17 + 8 + i by omega]
        simp only [Option.bind_some]
        obtain ⟨k, hk, rfl⟩ := (s_rng y 2 2 rfl).mp hy
        rcases (show k = 0 ∨ k = 1 ∨ k = 2 by omega) with rfl | rfl | rfl
        · exact ⟨_, rfl, rfl⟩
        · exact ⟨_, rfl, rfl⟩
        · rw [if_neg (show ¬ nI 2 = 0 by decide), if_neg (show ¬ nI 2 = 1 by decide), if_neg (show ¬ nI 2 = 0 by decide), if_neg (show ¬ nI 2 = 1 by decide)]
          by_cases e2 : σ1.1 (17 + 2 + i) 2 = 0
          · rw [if_pos e2, if_pos e2]
            exact ⟨_, rfl, rfl⟩
          · rw [if_neg e2, if_neg e2]
            exact ⟨_, rfl, rfl⟩
    · rw [if_neg hy]
      refine ok_of σ σ h ⟨-2, rfl, ?_⟩
      simp only [t2]
      rfl
