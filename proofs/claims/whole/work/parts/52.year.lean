/-! a year drawn: one draw on both sides -/
theorem s_pc {σ1 τ' : q_S} (c3 : DR σ1 τ') (n : Nat) : ∃ r, f_X3_partedCount (n + 100) 17 σ1 = some r ∧ f_X10_partedNow (n + 100) τ' = some r := by
  have hpc : ∀ (d i m1 m2 : Nat) (y : Int32), i + d = 6 → d < m1 → d < m2 → ∃ r, f_X3_partedCount_4 (n + 100) 17 σ1 m1 y (nI i) = some r ∧ f_X10_partedNow_4 (n + 100) τ' m2 y (nI i) = some r := by
    intro d
    induction d with
    | zero =>
      intro i m1 m2 y hi h1 h2
      obtain ⟨m1, rfl⟩ : ∃ k, m1 = k + 1 := ⟨m1 - 1, by omega⟩
      obtain ⟨m2, rfl⟩ : ∃ k, m2 = k + 1 := ⟨m2 - 1, by omega⟩
      have e : i = 6 := by omega
      subst e
      rw [f_X3_partedCount_4, f_X10_partedNow_4, if_pos (show (6 : Int32) ≤ nI 6 by decide), if_pos (show (6 : Int32) ≤ nI 6 by decide)]
      exact ⟨y, rfl, rfl⟩
    | succ d ih =>
      intro i m1 m2 y hi h1 h2
      obtain ⟨m1, rfl⟩ : ∃ k, m1 = k + 1 := ⟨m1 - 1, by omega⟩
      obtain ⟨m2, rfl⟩ : ∃ k, m2 = k + 1 := ⟨m2 - 1, by omega⟩
      have hi6 : i < 6 := by omega
      rw [f_X3_partedCount_4, f_X10_partedNow_4, if_neg (show ¬ (6 : Int32) ≤ nI i from nI_ge hi6 (by decide)), if_neg (show ¬ (6 : Int32) ≤ nI i from nI_ge hi6 (by decide)), if_pos (nI_in hi6 (by decide)), nI_clamp (by omega), nI_1, s_isT c3 rfl i hi6, s_hasP hi6 (DR_w c3 i hi6) τ' rfl]
      simp only [Option.bind_some]
      by_cases e0 : σ1.1 (17 + 2 + i) 0 = 0
      · rw [if_pos e0, if_pos e0]
        exact ih (i + 1) m1 m2 _ (by omega) (by omega) (by omega)
      · rw [if_neg e0, if_neg e0]
        by_cases e2 : σ1.1 (17 + 2 + i) 2 = 0
        · rw [if_pos e2, if_pos e2]
          exact ih (i + 1) m1 m2 _ (by omega) (by omega) (by omega)
        · rw [if_neg e2, if_neg e2]
          exact ih (i + 1) m1 m2 _ (by omega) (by omega) (by omega)
  obtain ⟨r, r1, r2⟩ := hpc 6 0 (n + 100) (n + 100) 0 rfl (by omega) (by omega)
  exact ⟨r, r1, r2⟩
/-- the sum of the cells, and what the reference gives of it -/
theorem s_sum {σ1 τ' : q_S} (c3 : DR σ1 τ') (n : Nat) (x3 : Int32) : ∃ r, f_X3_cellSum (n + 100) 17 σ1 = some r ∧ f_X10_year_169 (n + 100) x3 (n + 100) 0 0 τ' = if x3 = 0 then some (r, τ') else if x3 = 1 then (f_X10_partedNow (n + 100) τ').bind fun z => some (z, τ') else some (τ'.1 86 48, τ') := by
  have hpc : ∀ (d i m1 m2 : Nat) (y : Int32), i + d = 6 → d < m1 → d < m2 → ∃ r, f_X3_cellSum_4 (n + 100) 17 σ1 m1 y (nI i) = some r ∧ f_X10_year_169 (n + 100) x3 m2 y (nI i) τ' = if x3 = 0 then some (r, τ') else if x3 = 1 then (f_X10_partedNow (n + 100) τ').bind fun z => some (z, τ') else some (τ'.1 86 48, τ') := by
    intro d
    induction d with
    | zero =>
      intro i m1 m2 y hi h1 h2
      obtain ⟨m1, rfl⟩ : ∃ k, m1 = k + 1 := ⟨m1 - 1, by omega⟩
      obtain ⟨m2, rfl⟩ : ∃ k, m2 = k + 1 := ⟨m2 - 1, by omega⟩
      have e : i = 6 := by omega
      subst e
      rw [f_X3_cellSum_4, f_X10_year_169, if_pos (show (6 : Int32) ≤ nI 6 by decide), if_pos (show (6 : Int32) ≤ nI 6 by decide)]
      exact ⟨y, rfl, rfl⟩
    | succ d ih =>
      intro i m1 m2 y hi h1 h2
      obtain ⟨m1, rfl⟩ : ∃ k, m1 = k + 1 := ⟨m1 - 1, by omega⟩
      obtain ⟨m2, rfl⟩ : ∃ k, m2 = k + 1 := ⟨m2 - 1, by omega⟩
      have hi6 : i < 6 := by omega
      have hw := DR_w c3 i hi6
      rw [f_X3_cellSum_4, f_X10_year_169, if_neg (show ¬ (6 : Int32) ≤ nI i from nI_ge hi6 (by decide)), if_neg (show ¬ (6 : Int32) ≤ nI i from nI_ge hi6 (by decide)), if_pos (nI_in hi6 (by decide)), nI_clamp (by omega), nI_1, s_isT c3 rfl i hi6, show (6 : Int32) * nI i = nI (6 * i) from pk_mul 6 i, if_pos (nI_in (show 6 * i < 50 by omega) (by decide)), nI_clamp (by omega), hw.2.2.2.2.2.2.2.1, show 17 + 2 + i + 6 = 17 + 8 + i by omega]
      by_cases e0 : σ1.1 (17 + 2 + i) 0 = 0
      · rw [if_pos e0, if_pos e0]
        exact ih (i + 1) m1 m2 _ (by omega) (by omega) (by omega)
      · rw [if_neg e0, if_neg e0]
        exact ih (i + 1) m1 m2 _ (by omega) (by omega) (by omega)
  obtain ⟨r, r1, r2⟩ := hpc 6 0 (n + 100) (n + 100) 0 rfl (by omega) (by omega)
  exact ⟨r, r1, r2⟩
/-- the reference's draw -/
def s_yM (N : Nat) (w k : Int32) (τ : q_S) (K : q_S → Option (Int32 × q_S)) : Option (Int32 × q_S) :=
  if (4 : Int32) ≤ k then (if k = 4 then ((f_X10_waits N w τ).bind fun z => K z.2) else (if k = 5 then ((f_X10_stone N w τ).bind fun z => K z.2) else (if k = 6 then ((f_X10_blow N τ).bind fun z => K z) else ((f_X10_beat N τ).bind fun z => K z.2))))
  else (if (2 : Int32) ≤ k then ((f_X10_stepTo N w 1 τ).bind fun z => K z.2) else ((f_X10_stepTo N w (-1) τ).bind fun z => K z.2))
def s_yC (N : Nat) (w v : Int32) (σ : q_S) (K : q_S → Option q_S) : Option q_S :=
  (f_X3_whyNot N 17 w v σ).bind fun z => if z = 0 then ((f_X3_act N 17 w v σ).bind fun z => K z) else K σ
theorem s_bp (x : Option (Int32 × q_S)) : (x.bind fun z => some (z.1, z.2)) = x := by cases x <;> rfl
theorem s_deedY {σ τ : q_S} (h : DR σ τ) {N : Nat} {w v : Int32} {M : Option (Int32 × q_S)} (hd : Deed (f_X3_whyNot N 17 w v σ) (f_X3_act N 17 w v σ) M σ τ) : ∃ σ' τ', (∀ K, s_yC N w v σ K = K σ') ∧ (∀ K : q_S → Option (Int32 × q_S), (M.bind fun z => K z.2) = K τ') ∧ DR σ' τ' ∧ FC σ σ' ∧ FM τ τ' := by
  unfold s_yC
  rcases hd with ⟨r, b0, b1, b2, b3⟩ | ⟨b0, σ', τ', b1, b2, b3, b4, b5⟩
  · refine ⟨σ, τ, fun K => ?_, fun K => ?_, h, FC_rf σ, FM_rf τ⟩
    · rw [b2]
      simp only [Option.bind_some]
      rw [if_neg b0]
    · rw [b3]
      rfl
  · refine ⟨σ', τ', fun K => ?_, fun K => ?_, b3, b4, b5⟩
    · rw [b0, b1]
      simp only [Option.bind_some, if_true]
    · rw [b2]
      rfl
theorem s_yrStep {σ τ : q_S} (h : DR σ τ) (n i k : Nat) (hi : i < 6) (hk : k < 8) : ∃ σ' τ', (∀ K, s_yC (n + 100) (nI i) (q_s0 k) σ K = K σ') ∧ (∀ K, s_yM (n + 100) (nI i) (nI k) τ K = K τ') ∧ DR σ' τ' ∧ FC σ σ' ∧ FM τ τ' := by
  have h60 := s_deedY h (s_verb h n i hi 60 (Or.inl rfl))
  have h62 := s_deedY h (s_verb h n i hi 62 (Or.inr (Or.inl rfl)))
  have h61 := s_deedY h (s_verb h n i hi 61 (Or.inr (Or.inr (Or.inl rfl))))
  have h42 := s_deedY h (s_verb h n i hi 42 (Or.inr (Or.inr (Or.inr rfl))))
  have v60 : f_X10_verb (n + 100) (nI i) 60 τ = f_X10_stepTo (n + 100) (nI i) (-1) τ := s_bp _
  have v62 : f_X10_verb (n + 100) (nI i) 62 τ = f_X10_stepTo (n + 100) (nI i) 1 τ := s_bp _
  have v61 : f_X10_verb (n + 100) (nI i) 61 τ = f_X10_waits (n + 100) (nI i) τ := s_bp _
  have v42 : f_X10_verb (n + 100) (nI i) 42 τ = f_X10_stone (n + 100) (nI i) τ := s_bp _
  rw [v60] at h60
  rw [v62] at h62
  rw [v61] at h61
  rw [v42] at h42
  rcases (show k = 0 ∨ k = 1 ∨ k = 2 ∨ k = 3 ∨ k = 4 ∨ k = 5 ∨ k = 6 ∨ k = 7 by omega) with rfl | rfl | rfl | rfl | rfl | rfl | rfl | rfl
  · exact h60
  · exact h60
  · exact h62
  · exact h62
  · exact h61
  · exact h42
  · obtain ⟨σ', τ', b1, b2, b3, b4, b5⟩ := s_wind n σ τ h
    refine ⟨σ', τ', fun K => ?_, fun K => ?_, b3, b4, b5⟩
    · show s_yC (n + 100) (nI i) 126 σ K = K σ'
      unfold s_yC f_X3_whyNot f_X3_act
      rw [b1]
      rfl
    · show ((f_X10_blow (n + 100) τ).bind fun z => K z) = K τ'
      rw [b2]
      rfl
  · rcases s_beat n σ τ h with ⟨b0, b1⟩ | ⟨b0, σ', τ', b1, b2, b3, b4, b5⟩
    · refine ⟨σ, τ, fun K => ?_, fun K => ?_, h, FC_rf σ, FM_rf τ⟩
      · show s_yC (n + 100) (nI i) 46 σ K = K σ
        unfold s_yC f_X3_whyNot
        rw [if_neg (show ¬ (46 : Int32) = 126 by decide), if_pos (show (46 : Int32) = 46 from rfl), if_neg b0]
        rfl
      · show ((f_X10_beat (n + 100) τ).bind fun z => K z.2) = K τ
        rw [b1]
        rfl
    · refine ⟨σ', τ', fun K => ?_, fun K => ?_, b3, b4, b5⟩
      · show s_yC (n + 100) (nI i) 46 σ K = K σ'
        unfold s_yC f_X3_whyNot f_X3_act
        rw [if_neg (show ¬ (46 : Int32) = 126 by decide), if_pos (show (46 : Int32) = 46 from rfl), if_pos b0, b1]
        rfl
      · show ((f_X10_beat (n + 100) τ).bind fun z => K z.2) = K τ'
        rw [b2]
        rfl
