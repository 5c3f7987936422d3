/-! a step -/
theorem s_step43 {σ τ : q_S} (h : DR σ τ) (n i : Nat) (hi : i < 6) (hth : σ.1 (17 + 2 + i) 0 = 1) (c : Int32) (hc : rng c 20) (hadj : c = σ.1 (17 + 8 + i) 0 ∨ c = σ.1 (17 + 8 + i) 0 + 1 ∨ c = σ.1 (17 + 8 + i) 0 + (-1)) : Deed (f_X3_whyNoStep_43 (n + 100) 17 (nI i) c σ) (f_X8_stepTo (n + 100) (17 + 2 + i) c σ) (f_X10_stepTo_103 (n + 100) (nI i) c τ) σ τ := by
  obtain ⟨σ', τ', a1, a2, a3, a4, a5⟩ := s_go h n i hi hth c hc hadj
  unfold f_X3_whyNoStep_43 f_X10_stepTo_103 f_X10_has f_X3_whyNoStep_60 f_X3_whyNoStep_87
  rw [s_wi, s_oi _ _ _ _ (fun i hi => rW_lt (DR_w h i hi)), s_freeM h n i hi c, a2, h.1.1]
  simp only [Option.bind_some]
  by_cases ha : ((τ.1 84 4) >>> (c &&& 31)) &&& 1 = 1
  · rw [if_pos ha, if_pos ha]
    simp only [show ¬ ((1 : Int32) = 0) by decide, if_false, if_true]
    by_cases hf : sFree σ 17 i c = true
    · rw [if_pos ((s_freeC σ 17 i hi c).mpr hf), if_pos hf]
      exact Or.inr ⟨rfl, σ', τ', a1, rfl, a3, a4, a5⟩
    · rw [if_neg (fun q => hf ((s_freeC σ 17 i hi c).mp q)), if_neg hf]
      exact Or.inl ⟨4, by decide, ⟨4, by decide, rfl⟩, rfl, rfl⟩
  · rw [if_neg ha, if_neg ha]
    simp only [if_true, ite_self]
    exact Or.inr ⟨rfl, σ', τ', a1, rfl, a3, a4, a5⟩
theorem s_stepD {σ τ : q_S} (h : DR σ τ) (n i : Nat) (hi : i < 6) (hth : σ.1 (17 + 2 + i) 0 = 1) (d : Int32) (hd : d = 1 ∨ d = -1) : Deed (f_X3_whyNoStep (n + 100) 17 (nI i) (σ.1 (17 + 8 + i) 0 + d) σ) (f_X8_stepTo (n + 100) (17 + 2 + i) (σ.1 (17 + 8 + i) 0 + d) σ) (f_X10_stepTo (n + 100) (nI i) d τ) σ τ := by
  have hw := DR_w h i hi
  have n0 : ¬ σ.1 (17 + 2 + i) 0 = 0 := by rw [hth]; decide
  have e6 : 17 + 2 + i + 6 = 17 + 8 + i := by omega
  have hadj : σ.1 (17 + 8 + i) 0 + d = σ.1 (17 + 8 + i) 0 ∨ σ.1 (17 + 8 + i) 0 + d = σ.1 (17 + 8 + i) 0 + 1 ∨ σ.1 (17 + 8 + i) 0 + d = σ.1 (17 + 8 + i) 0 + (-1) := by
    rcases hd with rfl | rfl
    · exact Or.inr (Or.inl rfl)
    · exact Or.inr (Or.inr rfl)
  unfold f_X3_whyNoStep f_X10_stepTo f_X9_isCell f_X10_isCell
  rw [s_isT h rfl i hi, if_neg n0, show (6 : Int32) * nI i = nI (6 * i) from pk_mul 6 i, if_pos (nI_in (show 6 * i < 50 by omega) (by decide)), nI_clamp (show 6 * i < _ by omega), hw.2.2.2.2.2.2.2.1, if_pos (nI_in hi (by decide)), if_pos (nI_in hi (by decide)), nI_clamp (show i < _ by omega), s_wI, s_wM]
  generalize σ.1 (17 + 8 + i) 0 + d = c at *
  by_cases hcc : 0 ≤ c ∧ c ≤ 19
  · rw [if_pos hcc]
    simp only [show ¬ ((1 : Int32) = 0) by decide, if_false]
    have hc := (s_rng c 19 19 rfl).mp hcc
    have core := s_step43 h n i hi hth c hc hadj
    obtain ⟨l, hl, el⟩ := rW_lt hw
    -- where his OTHER will be
    obtain ⟨t0, ht0, hC, hM⟩ : ∃ t0, rng t0 20 ∧ f_X8_otherBehindStep (17 + 2 + i) c σ = some t0 ∧ (if τ.1 87 i = 0 then f_X10_stepTo_62 (n + 100) (nI i) c c τ else if ¬(nI (6 * i) + τ.1 87 i - 1 < 0 ∨ 50 ≤ (nI (6 * i) + τ.1 87 i - 1).toNatClampNeg) then f_X10_stepTo_62 (n + 100) (nI i) c (τ.1 86 (nI (6 * i) + τ.1 87 i - 1).toNatClampNeg) τ else none) = f_X10_stepTo_62 (n + 100) (nI i) c t0 τ := by
      unfold f_X8_otherBehindStep
      rw [hw.2.2.2.1, el, e6]
      rcases Nat.eq_zero_or_pos l with rfl | hl0
      · exact ⟨c, hc, rfl, rfl⟩
      · obtain ⟨l, rfl⟩ : ∃ j, l = j + 1 := ⟨l - 1, by omega⟩
        have hne : ¬ nI (l + 1) = 0 := by
          intro e
          have := congrArg Int32.toInt e
          rw [nI_toInt (by omega)] at this
          have h0 : (0 : Int32).toInt = 0 := rfl
          omega
        have s1 : nI (l + 1) - 1 = nI l := by
          rw [← nI_1, Int32.add_sub_cancel]
        have s2 : nI (6 * i) + nI (l + 1) - 1 = nI (6 * i + l) := by
          rw [nI_add, show 6 * i + (l + 1) = 6 * i + l + 1 by omega, ← nI_1, Int32.add_sub_cancel]
        rw [if_neg hne, if_neg hne, s1, s2, if_pos (nI_in (show l < 6 by omega) (by decide)), if_pos (nI_in (show 6 * i + l < 50 by omega) (by decide)), nI_clamp (show l < _ by omega), nI_clamp (show 6 * i + l < _ by omega), hw.2.2.2.2.2.2.2.2.1 hth l (by omega)]
        exact ⟨_, hw.2.2.2.2.2.2.2.2.2.1 l (by omega), rfl, rfl⟩
    rw [hC, hM]
    unfold f_X10_stepTo_62 f_X3_isHeld
    rw [s_hasP hi hw τ rfl, show τ.1 86 (48 : Int32).toNatClampNeg = σ.1 17 2 from h.2.2.1.1.symm]
    simp only [Option.bind_some]
    have hg := h.2.1
    rw [hg.1]
    have ginv : (f_J9_abs_0f7a4 (c - t0) ≤ τ.1 84 5) ↔ ¬ f_X10_in (c - t0) (-(τ.1 84 5)) (τ.1 84 5) = 0 := by
      obtain ⟨a, ha, rfl⟩ := hc
      obtain ⟨b, hb, rfl⟩ := ht0
      obtain ⟨_, g, hg1, hg2⟩ := hg
      rw [hg2]
      have q := s_gap ⟨a, ha⟩ ⟨b, hb⟩ ⟨g, hg1⟩
      constructor
      · intro hA hB
        rw [decide_eq_true hA, decide_eq_true hB] at q
        exact absurd q (by decide)
      · intro hB
        apply Decidable.byContradiction
        intro hA
        rw [decide_eq_false hA, decide_eq_false hB] at q
        exact absurd q (by decide)
    by_cases e2 : σ.1 (17 + 2 + i) 2 = 0
    · rw [if_pos e2, if_pos e2]
      by_cases ew : σ.1 17 2 = 0
      · rw [if_pos ew, if_pos ew]
        simp only [show ¬ ((1 : Int32) = 0) by decide, if_false]
        by_cases hz : f_X10_in (c - t0) (-(τ.1 84 5)) (τ.1 84 5) = 0
        · rw [if_pos hz, if_neg (fun q => ginv.mp q hz)]
          exact Or.inl ⟨3, by decide, ⟨3, by decide, rfl⟩, rfl, rfl⟩
        · rw [if_neg hz, if_pos (ginv.mpr hz)]
          exact core
      · rw [if_neg ew, if_neg ew]
        simp only [if_true]
        exact core
    · rw [if_neg e2, if_neg e2, ite_self]
      simp only [if_true]
      exact core
  · rw [if_neg hcc]
    simp only [if_true]
    exact Or.inl ⟨2, by decide, ⟨2, by decide, rfl⟩, rfl, rfl⟩
theorem s_stepV {σ τ : q_S} (h : DR σ τ) (n i : Nat) (hi : i < 6) (v : Int32) (hv : v = 60 ∨ v = 62) : Deed (f_X3_whyNot (n + 100) 17 (nI i) v σ) (f_X3_act (n + 100) 17 (nI i) v σ) (f_X10_verb (n + 100) (nI i) v τ) σ τ := by
  have hw := DR_w h i hi
  have e6 : 17 + 2 + i + 6 = 17 + 8 + i := by omega
  unfold f_X3_whyNot f_X3_act f_X10_verb
  rw [s_hasC h i hi]
  simp only [Option.bind_some]
  rcases hw.1 with e0 | e0
  · have z : ∀ d, f_X10_stepTo (n + 100) (nI i) d τ = some (1, τ) := fun d => by
      unfold f_X10_stepTo
      rw [s_isT h rfl i hi, if_pos e0]
    rw [z, z, if_pos e0, if_pos e0]
    rcases hv with rfl | rfl <;> exact Or.inl ⟨1, by decide, ⟨1, by decide, rfl⟩, rfl, rfl⟩
  · have n0 : ¬ σ.1 (17 + 2 + i) 0 = 0 := by rw [e0]; decide
    rw [if_neg n0, if_neg n0, if_pos (nI_in hi (by decide)), if_pos (nI_in hi (by decide)), nI_clamp (by omega), e6]
    unfold f_X3_actAlone f_X3_actAlone_26
    rw [e6, show (0 : Int32).toNatClampNeg = 0 from rfl]
    rcases hv with rfl | rfl
    · have c := s_stepD h n i hi e0 (-1) (Or.inr rfl)
      simp only [show ¬ ((60 : Int32) = 126) by decide, show ¬ ((60 : Int32) = 46) by decide, show ¬ ((60 : Int32) = 42) by decide, show ¬ ((60 : Int32) = 61) by decide, show ¬ ((60 : Int32) = 62) by decide, if_false, if_true]
      rw [Int32.sub_eq_add_neg]
      rcases c with ⟨r, c1, c2, c3, c4⟩ | ⟨c1, σ', τ', c2, c3, c4⟩
      · exact Or.inl ⟨r, c1, c2, by rw [c3]; rfl, by rw [c4]; rfl⟩
      · exact Or.inr ⟨by rw [c1]; rfl, σ', τ', by rw [c2, if_pos (s_ik hi (by decide))]; rfl, by rw [c3]; rfl, c4⟩
    · have c := s_stepD h n i hi e0 1 (Or.inl rfl)
      simp only [show ¬ ((62 : Int32) = 126) by decide, show ¬ ((62 : Int32) = 46) by decide, show ¬ ((62 : Int32) = 42) by decide, show ¬ ((62 : Int32) = 61) by decide, show ¬ ((62 : Int32) = 60) by decide, if_false, if_true]
      rcases c with ⟨r, c1, c2, c3, c4⟩ | ⟨c1, σ', τ', c2, c3, c4⟩
      · exact Or.inl ⟨r, c1, c2, by rw [c3]; rfl, by rw [c4]; rfl⟩
      · exact Or.inr ⟨by rw [c1]; rfl, σ', τ', by rw [c2, if_pos (s_ik hi (by decide))]; rfl, by rw [c3]; rfl, c4⟩
theorem s_verb {σ τ : q_S} (h : DR σ τ) (n i : Nat) (hi : i < 6) (v : Int32) (hv : v = 60 ∨ v = 62 ∨ v = 61 ∨ v = 42) : Deed (f_X3_whyNot (n + 100) 17 (nI i) v σ) (f_X3_act (n + 100) 17 (nI i) v σ) (f_X10_verb (n + 100) (nI i) v τ) σ τ := by
  rcases hv with rfl | rfl | rfl | rfl
  · exact s_stepV h n i hi 60 (Or.inl rfl)
  · exact s_stepV h n i hi 62 (Or.inr rfl)
  · exact s_wait h n i hi
  · exact s_stone h n i hi
