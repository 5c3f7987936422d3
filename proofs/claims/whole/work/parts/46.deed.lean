/-! a deed in the telling -/
theorem s_q12 (τ : q_S) (h : τ.1 84 12 = 0) : q_w τ 84 12 0 = τ := by
  refine s_ext (fun p k => ?_) rfl
  by_cases hp : p = 84
  · subst hp
    rw [s_w1]
    by_cases hk : k = 12
    · subst hk
      rw [s_u1, h]
    · rw [s_un _ _ _ hk]
  · rw [s_wn _ _ _ _ hp]
theorem s_whyThere {σ τ : q_S} (h : DR σ τ) (N i : Nat) (hi : i < 6) (v : Int32) (h1 : ¬ v = 126) (h2 : ¬ v = 46) (hw : f_X3_whyNot N 17 (nI i) v σ = some 0) : σ.1 (17 + 2 + i) 0 = 1 := by
  rcases (DR_w h i hi).1 with e | e
  · unfold f_X3_whyNot at hw
    rw [if_neg h1, if_neg h2, s_hasC h i hi] at hw
    simp only [Option.bind_some] at hw
    rw [if_pos e] at hw
    exact absurd (Option.some.inj hw) (by decide)
  · exact e
theorem s_actDeed {σ τ : q_S} {a : Nat} (h : TLS σ τ a) (ha : a < 61) (n i : Nat) (hi : i < 6) (v : Int32) (hv : v = 60 ∨ v = 62 ∨ v = 61 ∨ v = 42) (x : Int32) (hx : ¬ (x < 0 ∨ 60 ≤ x.toNatClampNeg)) (hs : τ.1 89 x.toNatClampNeg = v) (t0 : Int32) (ht : σ.1 (17 + 2 + i) 0 = 1 → t0 = σ.1 (17 + 2 + i) 2) : Act1 σ τ a (f_X6_tellAct (n + 100) (nI i) v σ) (fun k => f_X10_goDays_90 (n + 100) k x (nI i) t0 (q_w τ 84 12 0)) x := by
  have hD := DR_84 h.1 12 0 (by decide)
  have v1 : ¬ v = 126 := by rcases hv with rfl | rfl | rfl | rfl <;> decide
  have v2 : ¬ v = 46 := by rcases hv with rfl | rfl | rfl | rfl <;> decide
  have hs' : (q_w τ 84 12 0).1 89 x.toNatClampNeg = v := by rw [s_wn _ _ _ _ (by decide)]; exact hs
  rcases s_verb hD n i hi v hv with ⟨r, b0, b1, b2, b3⟩ | ⟨b0, σ', τ', b1, b2, b3, b4, b5⟩
  · refine Or.inr ⟨r, _, q_w (q_w τ 84 12 0) 84 12 r, s_actBar _ _ _ _ b2 b0, fun k => ?_, FT_tr (FT_w _ _ _) (FT_w _ _ _), FD_tr (FD_w _ _ _ (by decide)) (FD_w _ _ _ (by decide)), ?_, ?_, ?_, ?_⟩
    · simp only
      unfold f_X10_goDays_90
      rw [if_pos hx, hs', b3]
      simp only [Option.bind_some]
      have e12 : (q_w (q_w τ 84 12 0) 84 12 r).1 84 12 = r := by rw [s_w1, s_u1]
      rw [e12, if_neg b0, s_147b _ _ _ _ r e12 b1 b0]
      congr 2
      exact h.2.2.2.2.2.1
    · exact h.2.1
    · exact h.2.2.2.2.1
    · rfl
    · rfl
  · have hth := s_whyThere h.1 (n + 100) i hi v v1 v2 b0
    have h12 : τ'.1 84 12 = 0 := by rw [b5.1 84 (by decide), s_w1, s_u1]
    have hq := s_q12 τ' h12
    obtain ⟨c1, c2, c3⟩ := TLS_next h b3 b4 b5
    obtain ⟨p1, p2⟩ := s_actParted h.1 n i hi hth v hv b1
    have t0e := ht hth
    have h10 : τ'.1 84 10 = τ.1 84 10 := by rw [b5.1 84 (by decide), s_w1, s_un _ _ _ (by decide)]
    have h13 : τ'.1 84 13 = nI a := by rw [b5.1 84 (by decide), s_w1, s_un _ _ _ (by decide)]; exact h.2.2.2.2.2.1
    have c71 : σ'.1 71 = σ.1 71 := b4.1 71 (by decide)
    have hth' : σ'.1 (17 + 2 + i) 0 = 1 := by
      rw [← s_isT b3 rfl i hi]
      have e := s_isT hD rfl i hi
      rw [hth] at e
      rw [← e]
      unfold f_X10_isThere
      rw [b5.1 84 (by decide)]
    have n0' : ¬ σ'.1 (17 + 2 + i) 0 = 0 := by rw [hth']; decide
    have hC : f_X6_tellAct (n + 100) (nI i) v σ = if v = 42 then (if σ'.1 (17 + 2 + i) 2 = 0 then f_X6_tellAct_74 (n + 100) (nI i) 0 σ' else f_X6_tellAct_74 (n + 100) (nI i) 1 σ') else f_X6_tellAct_74 (n + 100) (nI i) 0 σ' := by
      unfold f_X6_tellAct
      rw [b0]
      simp only [Option.bind_some]
      simp only [if_true, b1, Option.bind_some]
      rw [s_hasC b3 i hi]
      simp only [Option.bind_some]
      rw [if_neg n0', if_pos (nI_in hi (by decide)), nI_clamp (by omega)]
    have hM : ∀ k, f_X10_goDays_90 (n + 100) k x (nI i) t0 (q_w τ 84 12 0) = if (0 : Int32) ≤ τ.1 84 10 then f_X10_goDays_147 (n + 100) k x τ' else if t0 = 0 then (if σ'.1 (17 + 2 + i) 2 = 0 then f_X10_goDays_147 (n + 100) k x τ' else f_X10_goDays_147 (n + 100) k x (q_w (q_w τ' 84 10 (τ'.1 84 13)) 84 11 (nI i))) else f_X10_goDays_147 (n + 100) k x τ' := by
      intro k
      unfold f_X10_goDays_90
      rw [if_pos hx, hs', b2]
      simp only [Option.bind_some]
      rw [hq, if_pos h12, h10, s_hasP hi (DR_w b3 i hi) τ' rfl]
      simp only [Option.bind_some]
    have plainC : f_X6_tellAct_74 (n + 100) (nI i) 0 σ' = some (q_w σ' 71 3 (σ'.1 71 3 + 1)) := by
      unfold f_X6_tellAct_74
      rw [if_pos rfl]
    have plain : (f_X6_tellAct (n + 100) (nI i) v σ = some (q_w σ' 71 3 (σ'.1 71 3 + 1))) → (∀ k, f_X10_goDays_90 (n + 100) k x (nI i) t0 (q_w τ 84 12 0) = f_X10_goDays_147 (n + 100) k x τ') → Act1 σ τ a (f_X6_tellAct (n + 100) (nI i) v σ) (fun k => f_X10_goDays_90 (n + 100) k x (nI i) t0 (q_w τ 84 12 0)) x := fun q1 q2 =>
      Or.inl ⟨_, _, q1, fun k => (q2 k).trans (s_147a _ _ _ _ h12), c1, c2, c3⟩
    have h6 : σ'.1 71 6 = τ.1 84 10 := by rw [c71]; exact h.2.2.2.2.2.2.1
    rcases h.2.2.2.2.2.2.2.2 with e10 | ⟨j, hj, e10⟩
    · -- none has parted yet
      rcases (DR_w h.1 i hi).2.1 with w2 | w2
      · by_cases hv42 : v = 42
        · -- he parts: both write it down
          have p3 := p2 hv42
          rw [w2, if_pos rfl] at p3
          have np3 : ¬ σ'.1 (17 + 2 + i) 2 = 0 := by rw [p3]; decide
          rw [w2] at t0e
          have m84 : τ'.1 84 = upd (τ.1 84) 12 0 := by rw [b5.1 84 (by decide), s_w1]
          refine Or.inl ⟨q_w (q_w (q_w σ' 71 6 (σ'.1 71 3)) 71 7 (nI i)) 71 3 (((q_w (q_w σ' 71 6 (σ'.1 71 3)) 71 7 (nI i)).1 71 3) + 1), q_w (q_w (q_w τ' 84 10 (τ'.1 84 13)) 84 11 (nI i)) 84 13 ((q_w (q_w τ' 84 10 (τ'.1 84 13)) 84 11 (nI i)).1 84 13 + 1), ?_, fun k => ?_, ⟨DR_84 (DR_84 (DR_84 (DR_71 (DR_71 (DR_71 b3 _ _) _ _) _ _) _ _ (by decide)) _ _ (by decide)) _ _ (by decide), ?_, ?_, ?_, ?_, ?_, ?_, ?_, ?_⟩, FT_tr (FT_tr (FT_tr (FT_fc b4) (FT_w _ _ _)) (FT_w _ _ _)) (FT_w _ _ _), FD_tr (FD_tr (FD_tr (FD_tr (FD_w _ _ _ (by decide)) (FD_fm b5)) (FD_w _ _ _ (by decide))) (FD_w _ _ _ (by decide))) (FD_w _ _ _ (by decide))⟩
          · rw [hC, if_pos hv42, if_neg np3]
            unfold f_X6_tellAct_74
            rw [if_neg (by decide), h6, if_pos e10]
          · refine (hM k).trans ?_
            rw [e10, if_neg (by decide), if_pos t0e, if_neg np3]
            refine s_147a _ _ _ _ ?_
            exact h12
          · show σ'.1 71 1 = 0
            rw [c71]
            exact h.2.1
          · show σ'.1 71 4 = -6
            rw [c71]
            exact h.2.2.1
          · show σ'.1 71 5 = -6
            rw [c71]
            exact h.2.2.2.1
          · show σ'.1 71 3 + 1 = nI (a + 1)
            rw [c71, h.2.2.2.2.1, nI_1]
          · show τ'.1 84 13 + 1 = nI (a + 1)
            rw [h13, nI_1]
          · show σ'.1 71 3 = τ'.1 84 13
            rw [c71, h.2.2.2.2.1, h13]
          · rfl
          · right
            show rng (τ'.1 84 13) 61
            rw [h13]
            exact ⟨a, ha, rfl⟩
        · have p3 := p1 hv42
          rw [w2] at p3 t0e
          refine plain (by rw [hC, if_neg hv42, plainC]) (fun k => by rw [hM, e10, if_neg (by decide), if_pos t0e, if_pos p3])
      · rw [w2] at t0e
        refine plain ?_ (fun k => by rw [hM, e10, if_neg (by decide), if_neg (by rw [t0e]; decide)])
        by_cases hv42 : v = 42
        · have p3 := p2 hv42
          rw [w2, if_neg (by decide)] at p3
          rw [hC, if_pos hv42, if_pos p3, plainC]
        · rw [hC, if_neg hv42, plainC]
    · have hn6 : ¬ σ'.1 71 6 = -6 := by
        rw [h6, e10]
        intro e
        have := congrArg Int32.toInt e
        rw [nI_toInt (by omega)] at this
        have h0 : (-6 : Int32).toInt = -6 := rfl
        omega
      have plainD : f_X6_tellAct_74 (n + 100) (nI i) 1 σ' = some (q_w σ' 71 3 (σ'.1 71 3 + 1)) := by
        unfold f_X6_tellAct_74
        rw [if_neg (by decide), if_neg hn6]
      have hge : (0 : Int32) ≤ τ.1 84 10 := by
        rw [e10, Int32.le_iff_toInt_le, nI_toInt (by omega)]
        have h0 : (0 : Int32).toInt = 0 := rfl
        omega
      refine plain ?_ (fun k => by rw [hM, if_pos hge])
      rw [hC, plainC, plainD, ite_self, ite_self]
