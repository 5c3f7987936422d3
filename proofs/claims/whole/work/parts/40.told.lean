theorem s_told_out (N : Nat) (x : Int32) (σ : q_S) (h0 : ¬ x = 0) (h1 : ¬ x = 1) (h2 : ¬ x = 2) (h3 : ¬ x = 3) (h4 : ¬ x = 4) (h5 : ¬ x = 5) (h6 : ¬ x = 6) : f_X9_told_45 N x σ = some (-2) := by
  unfold f_X9_told_45
  rw [if_neg h0, if_neg h1, if_neg h2, if_neg h3, if_neg h4, if_neg h5, if_neg h6]
theorem s_ge10 {x : Int32} (h : ¬ x < 10) (c : Int32) (hc : c.toInt < 10) : ¬ x = c := fun e => by
  subst e
  rw [Int32.lt_iff_toInt_lt] at h
  exact h hc
theorem o_told (n : Nat) (x : Int32) (σ : q_S) (h : Rel σ) : ∃ r σ2, f_X9_told (n + 100) x σ = some r ∧ f_X10_told (n + 100) x σ = some (r, σ2) ∧ Rel σ2 := by
  unfold f_X9_told f_X10_told
  by_cases hx : x < 10
  · rw [if_pos hx, if_pos hx]
    obtain ⟨⟨hA, hG, hWd, hBt, hT, w0, w1, w2, w3, w4, w5, hS⟩, hP, hI0, hI1⟩ := id h
    by_cases h0 : x = 0
    · subst h0
      exact ⟨_, σ, rfl, by rw [hP.1]; rfl, h⟩
    · by_cases h1 : x = 1
      · subst h1
        refine ⟨σ.1 84 2, σ, ?_, rfl, h⟩
        unfold f_X9_told_45
        rw [if_neg (by decide), if_pos rfl, s_tb, hT]
        rfl
      · by_cases h2 : x = 2
        · subst h2
          exact ⟨σ.1 84 4, σ, congrArg some hA.1, rfl, h⟩
        · by_cases h3 : x = 3
          · subst h3
            exact ⟨σ.1 84 5, σ, congrArg some hG.1, rfl, h⟩
          · by_cases h4 : x = 4
            · subst h4
              refine ⟨σ.1 85 48, σ, ?_, rfl, h⟩
              show (if σ.1 0 2 = 0 then some 0 else some 1) = some (σ.1 85 48)
              rw [hWd.1]
              rcases hWd.2 with e | e
              · rw [e]
                rfl
              · rw [e]
                rfl
            · by_cases h5 : x = 5
              · subst h5
                exact ⟨σ.1 85 49, σ, congrArg some hBt.1, rfl, h⟩
              · by_cases h6 : x = 6
                · subst h6
                  exact ⟨σ.1 84 6, σ, congrArg some hS.1, rfl, h⟩
                · refine ⟨-2, σ, s_told_out _ _ _ h0 h1 h2 h3 h4 h5 h6, ?_, h⟩
                  rw [if_neg h0, if_neg h1, if_neg h2, if_neg h3, if_neg h4, if_neg h5, if_neg h6]
  · rw [if_neg hx, if_neg hx]
    have hn := s_now σ h
    rcases s_isThere (τ := σ) h.1 rfl (x / 10 - 1) with ⟨h1, h2⟩ | ⟨h1, h2, i, hi, hxi, h3⟩
    · rw [h1, h2]
      refine ⟨-2, σ, ?_, rfl, h⟩
      show f_X9_told_45 (n + 100) x σ = some (-2)
      exact s_told_out _ _ _ (s_ge10 hx 0 (by decide)) (s_ge10 hx 1 (by decide)) (s_ge10 hx 2 (by decide)) (s_ge10 hx 3 (by decide)) (s_ge10 hx 4 (by decide)) (s_ge10 hx 5 (by decide)) (s_ge10 hx 6 (by decide))
    · rw [h1, h2, hxi, s_asNow]
      generalize hτ : q_w (q_w (q_cp σ 85 86 0 0 50) 84 10 (-6)) 84 11 (-6) = τ
      have hn : Rel τ ∧ τ.1 84 2 = σ.1 84 2 ∧ (∀ k, k < 50 → τ.1 86 k = σ.1 85 k) ∧ (∀ k, k < 6 → τ.1 87 k = σ.1 87 k) := by
        rw [← hτ]
        exact hn
      clear hτ
      obtain ⟨hR, -, h86, h87⟩ := hn
      simp only [Option.bind_some, show ¬ ((1 : Int32) = 0) by decide, if_false]
      rw [if_pos (nI_in hi (by decide)), nI_clamp (by omega)]
      have hw := rB_w h.1 i hi
      have hoc := s_otherC σ 0 i (rW_lt hw)
      have hom := s_otherM hi hw h3 h.1.2.2.1.1 h.1.2.2.1.2 τ h86 (h87 i hi)
      have hhp := s_hasP hi hw τ (h86 _ (by omega))
      obtain ⟨m, hm, rfl⟩ : ∃ m : Nat, m < 2 ^ 31 ∧ x = nI m := nI_of (fun q => hx (by
        rw [Int32.lt_iff_toInt_lt] at q ⊢
        have e1 : (0 : Int32).toInt = 0 := rfl
        have e2 : (10 : Int32).toInt = 10 := rfl
        omega))
      have hd : q_rem (nI m) 10 = nI (m % 10) := pk_rem (d := 10) hm (by decide) (by decide)
      rw [hd]
      have hdl : m % 10 < 10 := Nat.mod_lt _ (by decide)
      generalize m % 10 = d at hdl hd
      have h6i : (6 : Int32) * nI i = nI (6 * i) := pk_mul 6 i
      have h42 : (42 : Int32) + nI i = nI (42 + i) := nI_add 42 i
      obtain ⟨b0, b2, b4, bl, brl, bp0, bp1, bu0, brow, brng, badj⟩ := hw
      have row := brow h3
      have e148 : ∀ k, 4 ≤ k → k < 9 → d = k → f_X9_toldOfWalker (0 + 2 + i) (nI d) σ = some (σ.1 (8 + i) (k - 3)) ∧ f_X10_told_148 (n + 100) (nI m) (nI i) τ = some (σ.1 (8 + i) (k - 3), τ) := by
        intro k hk1 hk2 hdk
        subst hdk
        constructor
        · have e3 : nI d - 3 = nI (d - 3) := pk_sub (b := 3) (by omega)
          have e113 : f_X9_toldOfWalker_113 (0 + 2 + i) (nI d) σ = some (σ.1 (8 + i) (d - 3)) := by
            unfold f_X9_toldOfWalker_113
            rw [s_wI, if_pos (show (4 : Int32) ≤ nI d ∧ nI d ≤ 8 from ⟨nI_le (a := 4) hk1 (by omega), nI_le (b := 8) (by omega) (by decide)⟩), if_neg (by decide), e3, if_pos (nI_in (show d - 3 < 6 by omega) (by decide)), nI_clamp (by omega), show 0 + 2 + i + 6 = 8 + i by omega]
          unfold f_X9_toldOfWalker
          rw [e113]
          rcases (show d = 4 ∨ d = 5 ∨ d = 6 ∨ d = 7 ∨ d = 8 by omega) with rfl | rfl | rfl | rfl | rfl <;> rfl
        · unfold f_X10_told_148
          rw [hd, h6i, nI_add, show nI (6 * i + d) - 3 = nI (6 * i + d - 3) from pk_sub (b := 3) (by omega), if_pos (nI_in (show 6 * i + d - 3 < 50 by omega) (by decide)), nI_clamp (by omega), h86 _ (by omega), show 6 * i + d - 3 = 6 * i + (d - 3) by omega, row (d - 3) (by omega)]
      have d148 := e148 d
      rcases (show d = 0 ∨ d = 1 ∨ d = 2 ∨ d = 3 ∨ d = 4 ∨ d = 5 ∨ d = 6 ∨ d = 7 ∨ d = 8 ∨ d = 9 by omega) with rfl | rfl | rfl | rfl | rfl | rfl | rfl | rfl | rfl | rfl
      · refine ⟨σ.1 (8 + i) 0, τ, ?_, ?_, hR⟩
        · show (some (σ.1 (0 + 2 + i + 6) 0)).bind _ = _
          rw [show 0 + 2 + i + 6 = 8 + i by omega]
          rfl
        · rw [if_pos (by decide), h6i, if_pos (nI_in (show 6 * i < 50 by omega) (by decide)), nI_clamp (by omega), h86 _ (by omega), bu0, show 0 + 8 + i = 8 + i by omega]
      · refine ⟨σ.1 (0 + 2 + i) 1, τ, rfl, ?_, hR⟩
        rw [if_neg (by decide), if_pos (by decide), if_pos (s_ik hi (by decide)), h87 i hi, bl]
      · refine ⟨sO σ 0 i, τ, ?_, ?_, hR⟩
        · show ((f_X3_otherCell 0 (0 + 2 + i) σ).bind fun z73 => some z73).bind _ = _
          rw [hoc]
          rfl
        · rw [if_neg (by decide), if_neg (by decide), if_pos (by decide), hom]
          rfl
      · refine ⟨σ.1 (0 + 2 + i) 2, τ, ?_, ?_, hR⟩
        · show (if σ.1 (0 + 2 + i) 2 = 0 then some 0 else some 1).bind _ = _
          rcases b2 with e | e
          · rw [e]
            rfl
          · rw [e]
            rfl
        · rw [if_neg (by decide), if_neg (by decide), if_neg (by decide), if_pos (by decide), hhp]
          rcases b2 with e | e
          · rw [e]
            rfl
          · rw [e]
            rfl
      · have q := d148 (by decide) (by decide) rfl
        refine ⟨_, τ, by rw [q.1]; rfl, q.2, hR⟩
      · have q := d148 (by decide) (by decide) rfl
        refine ⟨_, τ, by rw [q.1]; rfl, q.2, hR⟩
      · have q := d148 (by decide) (by decide) rfl
        refine ⟨_, τ, by rw [q.1]; rfl, q.2, hR⟩
      · have q := d148 (by decide) (by decide) rfl
        refine ⟨_, τ, by rw [q.1]; rfl, q.2, hR⟩
      · have q := d148 (by decide) (by decide) rfl
        refine ⟨_, τ, by rw [q.1]; rfl, q.2, hR⟩
      · refine ⟨if σ.1 (0 + 2 + i) 2 = 0 then -6 else σ.1 (0 + 2 + i) 4, τ, ?_, ?_, hR⟩
        · show (if σ.1 (0 + 2 + i) 2 = 0 then some (-6) else (if σ.1 (0 + 2 + i) 4 = 0 then some 0 else some 1)).bind _ = _
          rcases b2 with e | e
          · rw [e]
            rfl
          · rw [e, if_neg (show ¬ ((1 : Int32) = 0) by decide), if_neg (show ¬ ((1 : Int32) = 0) by decide)]
            rcases b4 with f | f
            · rw [f]
              rfl
            · rw [f]
              rfl
        · rw [if_neg (by decide), if_neg (by decide), if_neg (by decide), if_neg (by decide), if_neg (by decide), if_neg (by decide), if_neg (by decide), if_neg (by decide), if_neg (by decide), if_pos (by decide), hhp]
          rcases b2 with e | e
          · rw [e]
            rfl
          · rw [e]
            show (if ¬ ((42 + nI i : Int32) < 0 ∨ 50 ≤ (42 + nI i : Int32).toNatClampNeg) then some (τ.1 86 (42 + nI i : Int32).toNatClampNeg, τ) else none) = some (σ.1 (0 + 2 + i) 4, τ)
            rw [h42, if_pos (nI_in (show 42 + i < 50 by omega) (by decide)), nI_clamp (by omega), h86 _ (by omega), (bp1 e).2.1]
