/-! when they meet again -/
theorem s_far : ∀ a b : Fin 20, f_J9_abs_0f7a4 (nI a.val - nI b.val) ≤ 19 := by decide +kernel
theorem s_meet (σ τ : q_S) (N N' p0 i : Nat) (hi : i < 6) (x1 : Int32) (g : Nat) (hg : g < 20) (hu : σ.1 (p0 + 6) 0 = nI g) (hB : τ.1 86 (6 * i) = nI g) : ∀ (d c m m' k : Nat) (b : Bool), c + d = 19 → d < m → d < m' → k < 20 → ∃ r, f_X9_meeting_13 N p0 x1 σ m (nI k) (if b then 1 else 0) (nI c) = some r ∧ f_X10_again_70 N' (nI i) x1 m' (nI k) (if b then 1 else -1) (nI c) τ = some (r, τ) := by
  intro d
  induction d with
  | zero =>
    intro c m m' k b h1 h2 h3 hk
    obtain ⟨m, rfl⟩ : ∃ j, m = j + 1 := ⟨m - 1, by omega⟩
    obtain ⟨m', rfl⟩ : ∃ j, m' = j + 1 := ⟨m' - 1, by omega⟩
    have e : c = 19 := by omega
    subst e
    have q := s_gap ⟨k, hk⟩ ⟨g, hg⟩ ⟨19, by decide⟩
    have f := s_far ⟨k, hk⟩ ⟨g, hg⟩
    have hin : ¬ f_X10_in (nI k - nI g) (-(nI 19)) (nI 19) = 0 := fun e => by
      rw [decide_eq_true (show f_J9_abs_0f7a4 (nI k - nI g) ≤ nI 19 from f), decide_eq_true e] at q
      exact absurd q (by decide)
    have hlt : ¬ nI 19 < f_J9_abs_0f7a4 (nI k - nI g) := fun e => by
      rw [Int32.lt_iff_toInt_lt] at e
      rw [Int32.le_iff_toInt_le] at f
      have a1 : (nI 19).toInt = 19 := rfl
      have a2 : (19 : Int32).toInt = 19 := rfl
      have f' : (f_J9_abs_0f7a4 (nI k - nI g)).toInt ≤ (19 : Int32).toInt := f
      omega
    rw [f_X9_meeting_13, f_X10_again_70, if_neg (show ¬ (40 : Int32) ≤ nI 19 by decide), if_neg (show ¬ (100 : Int32) ≤ nI 19 by decide), show (0 : Int32).toNatClampNeg = 0 from rfl, hu, show (6 : Int32) * nI i = nI (6 * i) from pk_mul 6 i, if_pos (nI_in (show 6 * i < 50 by omega) (by decide)), nI_clamp (by omega), hB, if_neg hlt, if_neg hin]
    by_cases hx : x1 = 0
    · rw [if_pos hx, if_pos hx]
      exact ⟨_, rfl, rfl⟩
    · rw [if_neg hx, if_neg hx]
      exact ⟨_, rfl, rfl⟩
  | succ d ih =>
    intro c m m' k b h1 h2 h3 hk
    obtain ⟨m, rfl⟩ : ∃ j, m = j + 1 := ⟨m - 1, by omega⟩
    obtain ⟨m', rfl⟩ : ∃ j, m' = j + 1 := ⟨m' - 1, by omega⟩
    have q := s_gap ⟨k, hk⟩ ⟨g, hg⟩ ⟨c, by omega⟩
    rw [f_X9_meeting_13, f_X10_again_70, if_neg (show ¬ (40 : Int32) ≤ nI c from nI_ge (b := 40) (by omega) (by decide)), if_neg (show ¬ (100 : Int32) ≤ nI c from nI_ge (b := 100) (by omega) (by decide)), show (0 : Int32).toNatClampNeg = 0 from rfl, hu, show (6 : Int32) * nI i = nI (6 * i) from pk_mul 6 i, if_pos (nI_in (show 6 * i < 50 by omega) (by decide)), nI_clamp (by omega), hB]
    by_cases hle : f_J9_abs_0f7a4 (nI k - nI g) ≤ nI c
    · have hin : ¬ f_X10_in (nI k - nI g) (-(nI c)) (nI c) = 0 := fun e => by
        rw [decide_eq_true hle, decide_eq_true e] at q
        exact absurd q (by decide)
      have hlt : ¬ nI c < f_J9_abs_0f7a4 (nI k - nI g) := fun e => by
        rw [Int32.lt_iff_toInt_lt] at e
        rw [Int32.le_iff_toInt_le] at hle
        omega
      rw [if_neg hlt, if_neg hin]
      by_cases hx : x1 = 0
      · rw [if_pos hx, if_pos hx]
        exact ⟨_, rfl, rfl⟩
      · rw [if_neg hx, if_neg hx]
        exact ⟨_, rfl, rfl⟩
    · have hin : f_X10_in (nI k - nI g) (-(nI c)) (nI c) = 0 := by
        apply Decidable.byContradiction
        intro e
        rw [decide_eq_false hle, decide_eq_false e] at q
        exact absurd q (by decide)
      have hlt : nI c < f_J9_abs_0f7a4 (nI k - nI g) := by
        rw [Int32.lt_iff_toInt_lt]
        rw [Int32.le_iff_toInt_le] at hle
        omega
      rw [if_pos hlt, if_pos hin, nI_1]
      obtain ⟨-, t2, t3, t4⟩ := s_strayT ⟨k, hk⟩ b
      simp only at t2 t3 t4
      -- the next cell and way
      have fin : ∀ (b' : Bool) (y : Int32), f_X9_isEastNext (nI k) (if b then 1 else 0) = (if b' then 1 else 0) → y = nI k + (if f_X9_isEastNext (nI k) (if b then 1 else 0) = 0 then -1 else 1) → ∃ r, (if f_X9_isEastNext (nI k) (if b then 1 else 0) = 0 then f_X9_meeting_13 N p0 x1 σ m (nI k + -1) (f_X9_isEastNext (nI k) (if b then 1 else 0)) (nI (c + 1)) else f_X9_meeting_13 N p0 x1 σ m (nI k + 1) (f_X9_isEastNext (nI k) (if b then 1 else 0)) (nI (c + 1))) = some r ∧ f_X10_again_70 N' (nI i) x1 m' y (if b' then 1 else -1) (nI (c + 1)) τ = some (r, τ) := by
        intro b' y e1 e2
        have hr : rng y 20 := by
          rw [e2]
          have t5 := t2.1
          have t6 := t2.2
          rw [Int32.lt_iff_toInt_lt] at t5
          rw [Int32.le_iff_toInt_le] at t6
          exact rng_of t6 t5
        obtain ⟨k', hk', ey⟩ := hr
        obtain ⟨r, r1, r2⟩ := ih (c + 1) m m' k' b' (by omega) (by omega) (by omega) hk'
        refine ⟨r, ?_, by rw [ey]; exact r2⟩
        rw [← r1, ← ey, e2, e1]
        by_cases hz : (if b' then (1 : Int32) else 0) = 0
        · rw [if_pos hz, if_pos hz]
        · rw [if_neg hz, if_neg hz]
      by_cases hc : f_X10_isCell (nI k + (if b then 1 else -1)) = 0
      · obtain ⟨u1, u2⟩ := t3 hc
        rw [if_pos hc]
        obtain ⟨r, r1, r2⟩ := fin (!b) _ (by rw [u1]; cases b <;> rfl) u2.symm
        refine ⟨r, r1, ?_⟩
        rw [← r2]
        cases b <;> rfl
      · obtain ⟨u1, u2⟩ := t4 hc
        rw [if_neg hc]
        exact fin b _ u1 u2.symm
theorem o_again (n : Nat) (x y : Int32) (σ : q_S) (h : Rel σ) : ∃ r σ2, f_X9_again (n + 100) x y σ = some r ∧ f_X10_again (n + 100) x y σ = some (r, σ2) ∧ Rel σ2 := by
  have hth := s_isThere h.1 (τ := σ) rfl x
  unfold f_X9_again f_X10_again
  rw [s_wI, s_wM]
  rcases hth with ⟨t1, t2⟩ | ⟨t1, t2, i, hi, rfl, t3⟩
  · rw [t1, t2]
    exact ⟨-1, σ, rfl, rfl, h⟩
  · rw [t1, t2]
    simp only [Option.bind_some, show ¬ ((1 : Int32) = 0) by decide, if_false]
    by_cases hy : 0 ≤ y ∧ y ≤ 1
    · rw [if_pos hy]
      simp only [show ¬ ((1 : Int32) = 0) by decide, if_false]
      have hn := s_now σ h
      have hw := rB_w h.1 i hi
      rw [s_asNow]
      simp only [Option.bind_some]
      rw [s_hasP hi hw _ (hn.2.2.1 _ (by omega)), if_pos (nI_in hi (by decide)), nI_clamp (by omega)]
      simp only [Option.bind_some]
      rcases hw.2.1 with e2 | e2
      · rw [if_pos e2, if_pos e2]
        exact ⟨-3, _, rfl, rfl, hn.1⟩
      · have n2 : ¬ σ.1 (0 + 2 + i) 2 = 0 := by rw [e2]; decide
        obtain ⟨h36, h42, c, hc, h3⟩ := hw.2.2.2.2.2.2.1 e2
        obtain ⟨g, hg, hu⟩ := hw.2.2.2.2.2.2.2.2.2.1 0 (by decide)
        obtain ⟨b, hb⟩ : ∃ b : Bool, σ.1 (0 + 2 + i) 4 = if b then 1 else 0 := by
          rcases hw.2.2.1 with e | e
          · exact ⟨false, e⟩
          · exact ⟨true, e⟩
        rw [if_neg n2, if_neg n2, show (36 : Int32) + nI i = nI (36 + i) from nI_add 36 i, show (42 : Int32) + nI i = nI (42 + i) from nI_add 42 i, if_pos (nI_in (show 36 + i < 50 by omega) (by decide)), if_pos (nI_in (show 42 + i < 50 by omega) (by decide)), nI_clamp (show 36 + i < _ by omega), nI_clamp (show 42 + i < _ by omega), hn.2.2.1 (36 + i) (by omega), hn.2.2.1 (42 + i) (by omega), h36, h42, h3, hb]
        have e6 : 0 + 2 + i + 6 = 0 + 8 + i := by omega
        obtain ⟨r, r1, r2⟩ := s_meet σ (q_w (q_w (q_cp σ 85 86 0 0 50) 84 10 (-6)) 84 11 (-6)) (n + 100) (n + 100) (0 + 2 + i) i hi y g hg (by rw [e6]; exact hu) (by rw [hn.2.2.1 _ (by omega), hw.2.2.2.2.2.2.2.1, hu]) 19 0 (n + 100) (n + 100) c b (by decide) (by omega) (by omega) hc
        refine ⟨r, _, ?_, ?_, hn.1⟩
        · unfold f_X9_meeting
          rw [h3, hb]
          obtain ⟨k, hk, rfl⟩ := (s_rng y 1 1 rfl).mp hy
          rcases (show k = 0 ∨ k = 1 by omega) with rfl | rfl
          · rw [if_neg (show ¬ nI 0 = (1 : Int32) by decide), show f_X9_meeting_13 (n + 100) (0 + 2 + i) 0 σ (n + 100) (nI c) (if b then 1 else 0) 0 = some r from r1]
            rfl
          · rw [if_pos (show nI 1 = (1 : Int32) from rfl), show f_X9_meeting_13 (n + 100) (0 + 2 + i) 1 σ (n + 100) (nI c) (if b then 1 else 0) 0 = some r from r1]
            rfl
        · rw [← r2]
          cases b
          · exact if_neg (by decide)
          · exact if_pos rfl
    · rw [if_neg hy]
      exact ⟨-2, σ, rfl, rfl, h⟩
