/-! say, seen -/
theorem s_chr : ∀ k, k < 127 → vp_nar .char (q_i2c (nI k)) = nI k := by decide +kernel
theorem o_say (x : Int32) : Ok (f_X9_say x) (f_X10_say x) := by
  intro σ h
  obtain ⟨hB, ⟨hc, ⟨j, hj, hj2⟩, hp⟩, hI0, hI1⟩ := h
  unfold f_X9_say f_X10_say
  rw [s_wI, s_wM]
  by_cases hx : 33 ≤ x ∧ x ≤ 126
  · rw [if_pos hx]
    simp only [show ¬ ((1 : Int32) = 0) by decide, if_false]
    have hxr : rng x 127 := by
      obtain ⟨h1, h2⟩ := hx
      rw [Int32.le_iff_toInt_le] at h1 h2
      exact rng_of (by have : (33 : Int32).toInt = 33 := rfl; omega) (by have : (126 : Int32).toInt = 126 := rfl; omega)
    have hxc : vp_nar .char (q_i2c x) = x := by
      obtain ⟨k, hk, rfl⟩ := hxr
      exact s_chr k hk
    unfold f_X2_add
    rw [hc, hj2, hxc]
    by_cases hj6 : j < 60
    · rw [if_pos (show nI j < 60 from nI_lt (b := 60) hj6 (by decide)), if_pos (nI_in hj6 (by decide)), nI_clamp (by omega)]
      simp only [Option.bind_some]
      rw [if_neg (by decide)]
      refine ⟨nI (j + 1), q_w (q_w σ 70 j x) 69 1 (nI (j + 1)), q_w (q_w (q_w (q_w σ 70 j x) 69 1 (nI (j + 1))) 89 j x) 84 8 (nI (j + 1)), ?_, ?_, ?_⟩
      · show some ((q_w (q_w σ 70 j x) 69 1 (σ.1 69 1 + 1)).1 69 1, q_w (q_w σ 70 j x) 69 1 (σ.1 69 1 + 1)) = _
        rw [hc, hj2, nI_1]
        rfl
      · show (if σ.1 84 8 = 60 then _ else _) = _
        rw [hj2, if_neg (show ¬ nI j = 60 from fun q => by have := (nI_eq (b := 60) (by omega) (by decide)).mp q; omega)]
        show (if ¬ (σ.1 84 8 < 0 ∨ 60 ≤ (σ.1 84 8).toNatClampNeg) then some (σ.1 84 8 + 1, q_w (q_w (q_w (q_w σ 70 j x) 69 1 (nI (j + 1))) 89 (σ.1 84 8).toNatClampNeg x) 84 8 (σ.1 84 8 + 1)) else none) = _
        rw [hj2, if_pos (nI_in hj6 (by decide)), nI_clamp (by omega), nI_1]
      · refine ⟨hB, ⟨rfl, ⟨j + 1, by omega, rfl⟩, fun k hk => ?_⟩, hI0, hI1⟩
        show upd (σ.1 70) j x k = upd (σ.1 89) j x k ∧ rng (upd (σ.1 70) j x k) 127
        by_cases hkj : k = j
        · subst hkj
          rw [s_u1, s_u1]
          exact ⟨rfl, hxr⟩
        · rw [s_un _ _ _ hkj, s_un _ _ _ hkj]
          exact hp k hk
    · have e : j = 60 := by omega
      subst e
      refine ⟨-4, σ, σ, ?_, ?_, ⟨hB, ⟨hc, ⟨60, hj, hj2⟩, hp⟩, hI0, hI1⟩⟩
      · rw [if_neg (by decide)]
        rfl
      · rw [hj2]
        rfl
  · rw [if_neg hx]
    exact ⟨_, _, σ, rfl, rfl, ⟨hB, ⟨hc, ⟨j, hj, hj2⟩, hp⟩, hI0, hI1⟩⟩
theorem o_seen (x y : Int32) : Ok (f_X9_seen x y) (f_X10_seen x y) := by
  intro σ h
  obtain ⟨⟨hA, hG, hWd, hBt, hT, w0, w1, w2, w3, w4, w5, hc, ⟨j, hj, hj2⟩, hp⟩, hP, hI0, hI1⟩ := h
  have hc : σ.1 14 2 = σ.1 84 6 := hc
  unfold f_X9_seen f_X10_seen f_X9_isCell f_X10_isCell
  rw [s_wI, s_wM, s_wI, s_wM]
  by_cases hy : 0 ≤ y ∧ y ≤ 19
  · by_cases hx : 0 ≤ x ∧ x ≤ 60
    · rw [if_pos hx, if_pos hy]
      simp only [show ¬ ((1 : Int32) = 0) by decide, if_false]
      have hxr := (s_rng x 60 60 rfl).mp hx
      have hyr := (s_rng y 19 19 rfl).mp hy
      unfold f_X5_add
      rw [hc, hj2]
      by_cases hj8 : j < 8
      · rw [if_pos (show nI j < 8 from nI_lt (b := 8) hj8 (by decide)), if_pos (nI_in hj8 (by decide)), nI_clamp (by omega)]
        have e1 : (q_w σ (14 + 1) j x).1 14 2 = nI j := by
          show σ.1 14 2 = nI j
          rw [hc, hj2]
        have e2 : (q_w (q_w σ (14 + 1) j x) (14 + 2) j y).1 14 2 = nI j := by
          show σ.1 14 2 = nI j
          rw [hc, hj2]
        rw [e1, if_pos (nI_in hj8 (by decide)), nI_clamp (by omega), e2, nI_1]
        simp only [Option.bind_some]
        rw [if_neg (by decide)]
        refine ⟨nI (j + 1), _, q_w (q_w (q_w (q_w (q_w (q_w σ 15 j x) 16 j y) 14 2 (nI (j + 1))) 88 (2 * j) x) 88 (2 * j + 1) y) 84 6 (nI (j + 1)), rfl, ?_, ?_⟩
        · have e3 : (q_w (q_w (q_w σ 15 j x) 16 j y) 14 2 (nI (j + 1))).1 84 6 = nI j := hj2
          have f1 : (2 : Int32) * nI j = nI (2 * j) := pk_mul 2 j
          rw [show (q_w (q_w (q_w σ (14 + 1) j x) (14 + 2) j y) 14 2 (nI (j + 1))).1 84 6 = nI j from hj2, if_neg (show ¬ nI j = 8 from fun q => by have := (nI_eq (b := 8) (by omega) (by decide)).mp q; omega), f1, if_pos (nI_in (show 2 * j < 16 by omega) (by decide)), nI_clamp (by omega)]
          rw [show (q_w (q_w (q_w (q_w σ (14 + 1) j x) (14 + 2) j y) 14 2 (nI (j + 1))) 88 (2 * j) x).1 84 6 = nI j from hj2, f1, nI_1, if_pos (nI_in (show 2 * j + 1 < 16 by omega) (by decide)), nI_clamp (by omega)]
          rw [show (q_w (q_w (q_w (q_w (q_w σ (14 + 1) j x) (14 + 2) j y) 14 2 (nI (j + 1))) 88 (2 * j) x) 88 (2 * j + 1) y).1 84 6 = nI j from hj2, nI_1]
          rfl
        · refine ⟨⟨hA, hG, hWd, hBt, hT, w0, w1, w2, w3, w4, w5, rfl, ⟨j + 1, by omega, rfl⟩, fun k hk => ?_⟩, hP, hI0, hI1⟩
          show upd (σ.1 15) j x k = upd (upd (σ.1 88) (2 * j) x) (2 * j + 1) y (2 * k) ∧ upd (σ.1 16) j y k = upd (upd (σ.1 88) (2 * j) x) (2 * j + 1) y (2 * k + 1) ∧ rng (upd (σ.1 15) j x k) 61 ∧ rng (upd (σ.1 16) j y k) 20
          by_cases hkj : k = j
          · subst hkj
            rw [s_u1, s_u1, s_un _ _ _ (show 2 * k ≠ 2 * k + 1 by omega), s_u1, s_u1]
            exact ⟨rfl, rfl, hxr, hyr⟩
          · rw [s_un _ _ _ hkj, s_un _ _ _ hkj, s_un _ _ _ (show 2 * k ≠ 2 * j + 1 by omega), s_un _ _ _ (show 2 * k ≠ 2 * j by omega), s_un _ _ _ (show 2 * k + 1 ≠ 2 * j + 1 by omega), s_un _ _ _ (show 2 * k + 1 ≠ 2 * j by omega)]
            exact hp k hk
      · have e : j = 8 := by omega
        subst e
        refine ⟨-4, σ, σ, ?_, ?_, ⟨⟨hA, hG, hWd, hBt, hT, w0, w1, w2, w3, w4, w5, hc, ⟨8, hj, hj2⟩, hp⟩, hP, hI0, hI1⟩⟩
        · rw [if_neg (by decide)]
          rfl
        · rw [hj2]
          rfl
    · rw [if_neg hx, if_pos hy]
      exact ⟨_, _, σ, rfl, rfl, ⟨⟨hA, hG, hWd, hBt, hT, w0, w1, w2, w3, w4, w5, hc, ⟨j, hj, hj2⟩, hp⟩, hP, hI0, hI1⟩⟩
  · rw [if_neg hy]
    exact ⟨_, _, σ, rfl, rfl, ⟨⟨hA, hG, hWd, hBt, hT, w0, w1, w2, w3, w4, w5, hc, ⟨j, hj, hj2⟩, hp⟩, hP, hI0, hI1⟩⟩
/-! the fault -/
theorem s_60 {i : Nat} (h : i < 60) : ¬ (60 : Int32) ≤ nI i := nI_ge (b := 60) h (by decide)
theorem s_let (x : Int32) : f_X2_isLetter x = f_X10_in x 65 70 := by
  unfold f_X2_isLetter
  rw [s_wI, s_wM]
theorem s_b01 (x : Int32) : f_X10_in x 65 70 = 0 ∨ f_X10_in x 65 70 = 1 := rb_X10_in x 65 70
theorem s_fault_l (N M : Nat) (σ τ : q_S) (c : Nat) (hc : c ≤ 60) (h1 : σ.1 69 1 = nI c) (h2 : τ.1 84 8 = nI c) (hp : ∀ j, j < 60 → σ.1 70 j = τ.1 89 j) :
    ∀ (d i m m' : Nat) (x : Int32), i + d = c → d < m → d < m' → (x = 0 ∨ x = 1) → f_X2_firstFault_4 N σ m x (nI i) = f_X10_faultOf_4 M τ m' x (nI i) ∧ ∃ v, f_X2_firstFault_4 N σ m x (nI i) = some v ∧ (v = -6 ∨ rng v 61) := by
  intro d
  induction d with
  | zero =>
    intro i m m' x hi hm hm' hx
    obtain ⟨m, rfl⟩ : ∃ k, m = k + 1 := ⟨m - 1, by omega⟩
    obtain ⟨m', rfl⟩ : ∃ k, m' = k + 1 := ⟨m' - 1, by omega⟩
    have e : i = c := by omega
    subst e
    rw [f_X2_firstFault_4, f_X10_faultOf_4, h1, h2, if_pos (nI_le (Nat.le_refl _) (by omega)), if_pos (nI_le (Nat.le_refl _) (by omega))]
    refine ⟨rfl, ?_⟩
    by_cases hx0 : x = 0
    · rw [if_pos hx0]
      exact ⟨_, rfl, Or.inl rfl⟩
    · rw [if_neg hx0]
      exact ⟨_, rfl, Or.inr ⟨i, by omega, rfl⟩⟩
  | succ d ih =>
    intro i m m' x hi hm hm' hx
    obtain ⟨m, rfl⟩ : ∃ k, m = k + 1 := ⟨m - 1, by omega⟩
    obtain ⟨m', rfl⟩ : ∃ k, m' = k + 1 := ⟨m' - 1, by omega⟩
    have ih0 := ih (i + 1) m m' 0 (by omega) (by omega) (by omega) (Or.inl rfl)
    have ih1 := ih (i + 1) m m' 1 (by omega) (by omega) (by omega) (Or.inr rfl)
    have hn : some (nI i) = some (nI i) ∧ ∃ v, some (nI i) = some v ∧ (v = -6 ∨ rng v 61) := ⟨rfl, _, rfl, Or.inr ⟨i, by omega, rfl⟩⟩
    rw [f_X2_firstFault_4, f_X10_faultOf_4, h1, h2, if_neg (nI_ge (show i < c by omega) (by omega)), if_neg (nI_ge (show i < c by omega) (by omega)), if_neg (s_60 (show i < 60 by omega))]
    unfold f_X2_firstFault_63 f_X10_faultOf_83
    have hk : ¬ (nI i < 0 ∨ 60 ≤ i) := fun q => by
      rcases q with q | q
      · exact nI_pos (by omega) q
      · omega
    simp only [nI_clamp (show i < 2 ^ 31 by omega), if_pos hk, nI_1, s_let, ← hp i (show i < 60 by omega)]
    generalize hs : σ.1 70 i = s
    rcases hx with rfl | rfl
    · simp only [if_true]
      unfold f_X2_isAlone
      rcases s_b01 s with hl | hl
      · rw [hl]
        simp only [if_true]
        by_cases ha : s = 126
        · simp only [ha, if_true, show ¬ ((1 : Int32) = 0) by decide, if_false]
          exact ih0
        · by_cases hb : s = 46
          · simp only [hb, if_true, show ¬ ((46 : Int32) = 126) by decide, show ¬ ((1 : Int32) = 0) by decide, if_false]
            exact ih0
          · simp only [ha, hb, if_false, if_true]
            exact ⟨trivial, hn.2⟩
      · rw [hl]
        simp only [show ¬ ((1 : Int32) = 0) by decide, if_false]
        exact ih1
    · simp only [show ¬ ((1 : Int32) = 0) by decide, if_false]
      unfold f_X2_isDeed
      by_cases h60 : s = 60
      · subst h60
        simp only [if_true, show ¬ ((1 : Int32) = 0) by decide, if_false, show f_X10_in 60 65 70 = 0 by decide]
        exact ih0
      · by_cases h62 : s = 62
        · subst h62
          simp only [if_true, show ¬ ((1 : Int32) = 0) by decide, if_false, show f_X10_in 62 65 70 = 0 by decide, show ¬ ((62 : Int32) = 60) by decide]
          exact ih0
        · by_cases h61 : s = 61
          · subst h61
            simp only [if_true, show ¬ ((1 : Int32) = 0) by decide, if_false, show f_X10_in 61 65 70 = 0 by decide, show ¬ ((61 : Int32) = 60) by decide, show ¬ ((61 : Int32) = 62) by decide]
            exact ih0
          · by_cases h42 : s = 42
            · subst h42
              simp only [if_true, show ¬ ((1 : Int32) = 0) by decide, if_false, show f_X10_in 42 65 70 = 0 by decide, show ¬ ((42 : Int32) = 60) by decide, show ¬ ((42 : Int32) = 62) by decide, show ¬ ((42 : Int32) = 61) by decide]
              exact ih0
            · simp only [h60, h62, h61, h42, if_false, if_true]
              exact ⟨trivial, hn.2⟩
theorem s_fault (n : Nat) (σ τ : q_S) (c : Nat) (hc : c ≤ 60) (h1 : σ.1 69 1 = nI c) (h2 : τ.1 84 8 = nI c) (hp : ∀ j, j < 60 → σ.1 70 j = τ.1 89 j) : f_X2_firstFault (n + 100) σ = f_X10_faultOf (n + 100) τ ∧ ∃ v, f_X2_firstFault (n + 100) σ = some v ∧ (v = -6 ∨ rng v 61) := by
  unfold f_X2_firstFault f_X10_faultOf
  exact s_fault_l _ _ σ τ c hc h1 h2 hp c 0 _ _ 0 (by omega) (by omega) (by omega) (Or.inl rfl)
theorem o_fault (n : Nat) (σ : q_S) (h : Rel σ) : ∃ r, f_X9_fault (n + 100) σ = some r ∧ f_X10_fault (n + 100) σ = some r := by
  obtain ⟨hB, ⟨hc, ⟨j, hj, hj2⟩, hp⟩, hI0, hI1⟩ := h
  obtain ⟨h1, v, h2, -⟩ := s_fault n σ σ j (by omega) (by rw [hc, hj2]) hj2 (fun k hk => (hp k hk).1)
  refine ⟨v, ?_, ?_⟩
  · unfold f_X9_fault
    rw [h2]
    rfl
  · unfold f_X10_fault
    rw [← h1, h2]
    rfl
