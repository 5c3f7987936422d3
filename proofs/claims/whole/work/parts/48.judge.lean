/-! a telling from the book on, and judge -/
theorem Rel_FT {σ σ' : q_S} (h : Rel σ) (hf : FT σ σ') : Rel σ' := Rel_congr (fun p hp hn => hf.1 p (by omega) (by omega)) (fun k hk => by rw [hf.1 84 (by decide) (by decide)]) h
theorem Rel_FD {σ σ' : q_S} (h : Rel σ) (hf : FD σ σ') : Rel σ' := Rel_congr (fun p hp hn => hf.1 p (by omega) (by omega)) (fun k hk => hf.2.1 k (by omega)) h
def s_nw (σ : q_S) : q_S := q_w (q_w (q_w (q_cp σ 85 86 0 0 50) 84 10 (-6)) 84 11 (-6)) 84 13 0
theorem s_goDays (n : Nat) (σ : q_S) : f_X10_goDays (n + 100) σ = f_X10_goDays_11 (n + 100) (n + 100) 0 (s_nw σ) := by
  unfold f_X10_goDays
  rw [s_asNow]
  rfl
theorem s_nw_FD (σ : q_S) : FD σ (s_nw σ) := by
  refine FD_tr (FD_tr (FD_tr (b := q_cp σ 85 86 0 0 50) ⟨fun p hp hq => s_cp_n _ _ _ _ _ _ hp, fun k hk => by rw [s_cp_n _ _ _ _ _ _ (by decide)], ?_⟩ (FD_w _ _ _ (by decide))) (FD_w _ _ _ (by decide))) (FD_w _ _ _ (by decide))
  rfl
theorem s_nw_86 (σ : q_S) (k : Nat) (hk : k < 50) : (s_nw σ).1 86 k = σ.1 85 k := by
  unfold s_nw
  rw [s_wn _ _ _ _ (by decide), s_wn _ _ _ _ (by decide), s_wn _ _ _ _ (by decide)]
  exact s_cp_at σ 85 86 50 k hk
def FQ (σ τ : q_S) : Prop := ∀ p, (p = 84 ∨ p = 85 ∨ p = 87 ∨ p = 88 ∨ p = 89) → τ.1 p = σ.1 p
theorem FQ_FT {σ τ : q_S} (h : FT σ τ) : FQ σ τ := fun p hp => h.1 p (by omega) (by omega)
theorem TLS_init {σ z τ : q_S} (h : Rel σ) (hz : CP σ z 17 0) (hτ : FQ σ τ) : TLS (q_w (q_w (q_w (q_w (q_w (q_w z 71 3 0) 71 4 (-6)) 71 5 (-6)) 71 6 (-6)) 71 7 (-6)) 71 1 0) (s_nw τ) 0 := by
  have hD := s_nw_FD τ
  refine ⟨?_, rfl, rfl, rfl, rfl, rfl, rfl, rfl, Or.inl rfl⟩
  refine DR_71 (DR_71 (DR_71 (DR_71 (DR_71 (DR_71 ?_ _ _) _ _) _ _) _ _) _ _) _ _
  unfold DR
  rw [hD.1 87 (by decide) (by decide), hD.1 88 (by decide) (by decide), hD.2.1 2 (by decide), hD.2.1 4 (by decide), hD.2.1 5 (by decide), hD.2.1 6 (by decide), hτ 87 (by decide), hτ 88 (by decide), hτ 84 (by decide)]
  refine rB_row (rB_copy hz h.1) (fun k hk => ?_) (fun k hk => rfl) (fun k hk => rfl)
  rw [s_nw_86 _ _ hk, hτ 85 (by decide)]
/-- what a telling gives: the reference's may begin at any store that holds the same book -/
theorem s_tell (n : Nat) (σ : q_S) (h : Rel σ) : ∃ σ1, f_X6_tell (n + 100) 0 σ = some σ1 ∧ FT σ σ1 ∧
    ((σ1.1 71 1 = 1 ∧ σ1.1 71 2 = 0 ∧ ∃ v, rng v 61 ∧ ∀ τ, FQ σ τ → f_X10_faultOf (n + 100) τ = some v) ∨
     (σ1.1 71 1 = 0 ∧ (∀ τ, FQ σ τ → f_X10_faultOf (n + 100) τ = some (-6)) ∧
       ((σ1.1 71 2 = 1 ∧ σ1.1 71 4 = -6 ∧ σ1.1 71 5 = -6 ∧ ∀ τ, FQ σ τ → ∃ τ', FD τ τ' ∧ f_X10_goDays (n + 100) τ = some (-6, τ') ∧ DR σ1 τ' ∧ σ1.1 71 3 = τ'.1 84 13 ∧ σ1.1 71 6 = τ'.1 84 10 ∧ σ1.1 71 7 = τ'.1 84 11) ∨
        (σ1.1 71 2 = 0 ∧ rng (σ1.1 71 4) 61 ∧ ∀ τ, FQ σ τ → ∃ τ', FD τ τ' ∧ f_X10_goDays (n + 100) τ = some (σ1.1 71 4, τ') ∧ τ'.1 84 12 = σ1.1 71 5)))) := by
  obtain ⟨z, hz1, hz2⟩ := s_copy n 17 0 σ (Or.inr (by decide)) (rB_BL h.1)
  obtain ⟨hc, ⟨c, hc6, hc2⟩, hp⟩ := h.2.1
  have hzF : FT σ z := ⟨fun p hp _ => hz2.1 p (by omega), hz2.2.1⟩
  have hsF : ∀ b, FT σ (q_w (q_w (q_w (q_w (q_w (q_w z 71 3 0) 71 4 (-6)) 71 5 (-6)) 71 6 (-6)) 71 7 (-6)) 71 1 b) := fun b => FT_tr (FT_tr (FT_tr (FT_tr (FT_tr (FT_tr hzF (FT_w _ _ _)) (FT_w _ _ _)) (FT_w _ _ _)) (FT_w _ _ _)) (FT_w _ _ _)) (FT_w _ _ _)
  have hxF : FT σ (q_w (q_w (q_w (q_w (q_w z 71 3 0) 71 4 (-6)) 71 5 (-6)) 71 6 (-6)) 71 7 (-6)) := FT_tr (FT_tr (FT_tr (FT_tr (FT_tr hzF (FT_w _ _ _)) (FT_w _ _ _)) (FT_w _ _ _)) (FT_w _ _ _)) (FT_w _ _ _)
  have hfx : ∀ τ, FQ σ τ → f_X2_firstFault (n + 100) (q_w (q_w (q_w (q_w (q_w z 71 3 0) 71 4 (-6)) 71 5 (-6)) 71 6 (-6)) 71 7 (-6)) = f_X10_faultOf (n + 100) τ ∧ ∃ v, f_X2_firstFault (n + 100) (q_w (q_w (q_w (q_w (q_w z 71 3 0) 71 4 (-6)) 71 5 (-6)) 71 6 (-6)) 71 7 (-6)) = some v ∧ (v = -6 ∨ rng v 61) := fun τ hτ =>
    s_fault n _ τ c (by omega) (by rw [hxF.1 69 (by decide) (by decide), hc, hc2]) (by rw [hτ 84 (by decide), hc2]) (fun j hj => by rw [hxF.1 70 (by decide) (by decide), hτ 89 (by decide)]; exact (hp j hj).1)
  unfold f_X6_tell
  rw [hz1]
  simp only [Option.bind_some]
  obtain ⟨-, v, hv, hv2⟩ := hfx σ (FQ_FT (FT_rf σ))
  rw [hv]
  simp only [Option.bind_some]
  rcases hv2 with rfl | hv3
  · simp only [if_true]
    generalize hs : q_w (q_w (q_w (q_w (q_w (q_w z 71 3 0) 71 4 (-6)) 71 5 (-6)) 71 6 (-6)) 71 7 (-6)) 71 1 0 = s
    have hsF0 := hsF 0
    rw [hs] at hsF0
    have run : ∀ τ, FQ σ τ → Out s (s_nw τ) (f_X6_tell_61 (n + 100) (n + 100) (-6) 0 s) (f_X10_goDays_11 (n + 100) (n + 100) 0 (s_nw τ)) := fun τ hτ => by
      have hD := s_nw_FD τ
      have hT : TLS s (s_nw τ) 0 := by
        rw [← hs]
        exact TLS_init h hz2 hτ
      refine s_tellLoop n (q_w (q_w (q_w (q_w (q_w z 71 3 0) 71 4 (-6)) 71 5 (-6)) 71 6 (-6)) 71 7 (-6)) c (by omega) (by rw [hxF.1 69 (by decide) (by decide), hc, hc2]) c c 0 0 (n + 100) (n + 100) (-6) s (s_nw τ) (Nat.le_refl _) (by omega) (by omega) (by omega) hT (Nat.le_refl _) ?_ ?_ ?_ (fun j hj => ?_) ⟨n + 100, hv⟩
      · rw [hsF0.1 69 (by decide) (by decide), hxF.1 69 (by decide) (by decide)]
      · rw [hsF0.1 70 (by decide) (by decide), hxF.1 70 (by decide) (by decide)]
      · rw [hD.2.1 8 (by decide), hτ 84 (by decide), hc2]
      · rw [hxF.1 70 (by decide) (by decide), hD.1 89 (by decide) (by decide), hτ 89 (by decide)]
        exact (hp j hj).1
    obtain ⟨σ1, τ1, a1, a2, a3, a4, a5⟩ := run σ (FQ_FT (FT_rf σ))
    have hF1 : FT σ σ1 := FT_tr hsF0 a2
    have run2 : ∀ τ, FQ σ τ → ∃ τ', FD τ τ' ∧ ((f_X10_goDays (n + 100) τ = some (-6, τ') ∧ σ1.1 71 2 = 1 ∧ σ1.1 71 4 = -6 ∧ σ1.1 71 5 = -6 ∧ DR σ1 τ' ∧ σ1.1 71 3 = τ'.1 84 13 ∧ σ1.1 71 6 = τ'.1 84 10 ∧ σ1.1 71 7 = τ'.1 84 11) ∨ (∃ a r, a < 61 ∧ f_X10_goDays (n + 100) τ = some (nI a, τ') ∧ σ1.1 71 2 = 0 ∧ σ1.1 71 4 = nI a ∧ σ1.1 71 5 = r ∧ τ'.1 84 12 = r)) := fun τ hτ => by
      obtain ⟨σ2, τ2, b1, b2, b3, b4, b5⟩ := run τ hτ
      have e12 : σ1 = σ2 := by
        rw [a1] at b1
        exact Option.some.inj b1
      subst e12
      refine ⟨τ2, FD_tr (s_nw_FD τ) b3, ?_⟩
      rw [s_goDays]
      exact b5
    refine ⟨σ1, a1, hF1, Or.inr ⟨a4, fun τ hτ => by rw [← (hfx τ hτ).1, hv], ?_⟩⟩
    rcases a5 with ⟨c1, c2, c3, c4, c5, c6⟩ | ⟨a, r, c1, c2, c3, c4, c5, c6⟩
    · refine Or.inl ⟨c2, c3, c4, fun τ hτ => ?_⟩
      obtain ⟨τ', d1, ⟨d2, d3, d4, d5, d6⟩ | ⟨a, r, d2, d3, d4, d5⟩⟩ := run2 τ hτ
      · exact ⟨τ', d1, d2, d6⟩
      · rw [c2] at d4
        exact absurd d4 (by decide)
    · refine Or.inr ⟨c3, ⟨a, c1, c4⟩, fun τ hτ => ?_⟩
      obtain ⟨τ', d1, ⟨d2, d3, d4, d5, d6⟩ | ⟨a, r, d2, d3, d4, d5, d6, d7⟩⟩ := run2 τ hτ
      · rw [c3] at d3
        exact absurd d3 (by decide)
      · exact ⟨τ', d1, by rw [d5]; exact d3, by rw [d6]; exact d7⟩
  · have hne : ¬ v = -6 := by
      obtain ⟨j, hj, rfl⟩ := hv3
      exact nI_n6 (by omega)
    rw [if_neg hne]
    have e1 : f_X6_tell_61 (n + 100) (n + 100) (-6) 0 (q_w (q_w (q_w (q_w (q_w (q_w z 71 3 0) 71 4 (-6)) 71 5 (-6)) 71 6 (-6)) 71 7 (-6)) 71 1 1) = some (q_w (q_w (q_w (q_w (q_w (q_w (q_w z 71 3 0) 71 4 (-6)) 71 5 (-6)) 71 6 (-6)) 71 7 (-6)) 71 1 1) 71 2 0) := by
      rw [show n + 100 = n + 99 + 1 from rfl, f_X6_tell_61]
      have q : ¬ (q_w (q_w (q_w (q_w (q_w (q_w z 71 3 0) 71 4 (-6)) 71 5 (-6)) 71 6 (-6)) 71 7 (-6)) 71 1 1).1 71 1 = 0 := by
        rw [s_w1, s_u1]
        decide
      unfold f_X6_tell_132
      rw [if_neg q, if_neg q, ite_self, ite_self]
    rw [e1]
    have hF : FT σ (q_w (q_w (q_w (q_w (q_w (q_w (q_w z 71 3 0) 71 4 (-6)) 71 5 (-6)) 71 6 (-6)) 71 7 (-6)) 71 1 1) 71 2 0) := FT_tr (hsF 1) (FT_w _ _ _)
    exact ⟨_, rfl, hF, Or.inl ⟨rfl, rfl, v, hv3, fun τ hτ => by rw [← (hfx τ hτ).1, hv]⟩⟩
theorem o_judge (n : Nat) (x : Int32) : Ok (f_X9_judge (n + 100) x) (f_X10_judge (n + 100) x) := by
  intro σ h
  unfold f_X9_judge f_X10_judge
  rw [s_wI, s_wM]
  by_cases hx : 0 ≤ x ∧ x ≤ 1
  · rw [if_pos hx]
    simp only [show ¬ ((1 : Int32) = 0) by decide, if_false]
    obtain ⟨σ1, a1, a2, a3⟩ := s_tell n σ h
    rw [a1]
    simp only [Option.bind_some]
    have hR := Rel_FT h a2
    have hq := FQ_FT a2
    rcases a3 with ⟨b1, b2, v, b4, b3⟩ | ⟨b1, b2, b4⟩
    · refine ⟨-5, σ1, σ1, ?_, ?_, hR⟩
      · rw [if_neg (by rw [b1]; decide)]
      · rw [b3 σ1 hq]
        simp only [Option.bind_some]
        obtain ⟨j, hj, rfl⟩ := b4
        rw [if_neg (nI_pos (by omega))]
    · rcases b4 with ⟨c1, c2, c3, c4⟩ | ⟨c1, c2, c3⟩
      · obtain ⟨τ', d1, d2, -⟩ := c4 σ1 hq
        refine ⟨-6, σ1, τ', ?_, ?_, Rel_FD hR d1⟩
        · rw [if_pos b1, c2, c3, ite_self]
        · rw [b2 σ1 hq, d2]
          rfl
      · obtain ⟨τ', d1, d2, d3⟩ := c3 σ1 hq
        refine ⟨if x = 0 then σ1.1 71 4 else σ1.1 71 5, σ1, τ', ?_, ?_, Rel_FD hR d1⟩
        · rw [if_pos b1]
          by_cases hx0 : x = 0
          · rw [if_pos hx0, if_pos hx0]
          · rw [if_neg hx0, if_neg hx0]
        · rw [b2 σ1 hq, d2]
          simp only [Option.bind_some]
          obtain ⟨a, ha, ea⟩ := c2
          rw [if_pos (by decide), d3, if_neg (show ¬ σ1.1 71 4 < 0 by rw [ea]; exact nI_pos (by omega))]
          by_cases hx0 : x = 0
          · rw [if_pos hx0, if_pos hx0]
          · rw [if_neg hx0, if_neg hx0]
  · rw [if_neg hx]
    exact ⟨_, _, σ, rfl, rfl, h⟩
